import java.util.ArrayList;
import java.util.Arrays;
import java.util.HashMap;
import java.util.HashSet;
import java.util.List;
import java.util.Map;
import java.util.Set;

/** The document told a second time, as plainly as the Java library lets it: what IceTreaty answers is held against this. */
final class SecondLand {

    private static final int NONE = -1;

    private static final class Cell {
        int height = 0;
        int ground = 0;
        int way = NONE;
        int days = 0;
    }

    private static final class Party {
        int decidesFrom = NONE;
        int science = 0;
        final Set<Integer> bars = new HashSet<>();
        final Set<List<Integer>> wants = new HashSet<>();
    }

    private static final class Place {
        final int kind;
        final int party;
        int cell;
        final int lowerRight;
        int value;
        boolean lost = false;
        int people = 0;
        int drums = 0;
        int hidden = 0;
        int cold = 0;
        int since = 0;
        final int[] waste = new int[4];
        int declaredPeople = 0;
        int declaredDrums = 0;
        final Map<Integer, Integer> counts = new HashMap<>();
        final int[] noise = new int[10];
        final List<int[]> soundings = new ArrayList<>();

        Place(int kind, int party, int cell, int lowerRight, int value) {
            this.kind = kind;
            this.party = party;
            this.cell = cell;
            this.lowerRight = lowerRight;
            this.value = value;
        }

        int sure() {
            int greatestLow = soundings.stream().mapToInt(s -> s[0] - s[1]).max().orElse(0);
            int leastLow = soundings.stream().mapToInt(s -> s[0] - s[1]).min().orElse(0);
            int leastHigh = soundings.stream().mapToInt(s -> s[0] + s[1]).min().orElse(0);
            return Math.max(0, greatestLow > leastHigh ? leastLow : greatestLow);
        }
    }

    private static final class Work {
        int kind;
        int party;
        int cell;
        int from;
        int to;
        int people;
        int noise;
        int done = 0;
        int held = 0;
        int notice = NONE;
        int leave = NONE;
        int study = NONE;
        int harm = NONE;
        final Map<Integer, Boolean> said = new HashMap<>();
    }

    private static final class Ship {
        int party;
        int room;
        int strength;
        int state = 0;
        int sea = 0;
        int station = NONE;
        int seaDays = 0;
        int drums = 0;
        int waste = 0;
        int due = NONE;
        int waited = 0;
    }

    private static final class Sledge {
        int to;
        int cell;
        int due;
        int drums;
    }

    private static final class Drill {
        Place site;
        int work;
        int depth = 0;
    }

    private static final class Stop {
        int station;
        int need;
        final int[] from = {0, 0, 0};
        final int[] to = {359, 359, 359};
    }

    private int today = 0;
    private int columns = 8;
    private int rows = 8;
    private Cell[] cells = new Cell[0];
    private int darkFrom = 120;
    private int darkTo = 239;
    private final int[][] covers = new int[4][12];
    private final int[] seaDays = {10, 10, 10, 10};
    private final SecondLaw law = new SecondLaw();
    private final List<Party> parties = new ArrayList<>();
    private final List<Place> places = new ArrayList<>();
    private final List<Work> works = new ArrayList<>();
    private final List<Ship> ships = new ArrayList<>();
    private final List<Sledge> sledges = new ArrayList<>();
    private int sledgesEver = 0;
    private final List<int[]> visits = new ArrayList<>();
    private final List<Drill> drills = new ArrayList<>();
    private final List<int[]> catches = new ArrayList<>();
    private final List<Integer> words = new ArrayList<>();
    private final List<Stop> stops = new ArrayList<>();
    private final List<int[]> reports = new ArrayList<>();
    private List<Integer> tape = new ArrayList<>();
    private final int[] speeds = new int[10];
    private int margin = 100;
    private final long[] sums = new long[8];
    private int[] bestOrder = null;
    private int bestEnd = NONE;

    SecondLand() {
        Arrays.fill(speeds, 50);
        lay(8, 8);
    }

    // ---- what is there ----

    private static boolean in(long n, long least, long most) {
        return least <= n && n <= most;
    }

    private static boolean isDay(int day) {
        return in(day, 0, 3599);
    }

    private static boolean isThere(int i, List<?> all) {
        return in(i, 0, all.size() - 1);
    }

    private boolean isCell(int c) {
        return in(c, 0, cells.length - 1);
    }

    private boolean isFirm(int c) {
        return isCell(c) && cells[c].ground < 2;
    }

    private boolean isRectangle(int a, int b) {
        return isCell(a) && isCell(b) && a / columns <= b / columns && a % columns <= b % columns;
    }

    private boolean has(Place place, int c) {
        int row = c / columns;
        int column = c % columns;
        return in(row, place.cell / columns, place.lowerRight / columns) && in(column, place.cell % columns, place.lowerRight % columns);
    }

    private int far(int a, int b) {
        return Math.max(Math.abs(a / columns - b / columns), Math.abs(a % columns - b % columns));
    }

    private boolean isSeaNear(int c) {
        for (int i = 0; i < cells.length; i++) {
            if (cells[i].ground == 2 && far(i, c) <= 1) {
                return true;
            }
        }
        return false;
    }

    private boolean isDark(int day) {
        return in(day % 360, darkFrom, darkTo);
    }

    private boolean doesDecide(Party party, int day) {
        return party.decidesFrom != NONE && party.decidesFrom <= day;
    }

    private Place place(int k, int kind) {
        return isThere(k, places) && places.get(k).kind == kind ? places.get(k) : null;
    }

    private Place standing(int k) {
        Place station = place(k, 1);
        return station == null || station.lost ? null : station;
    }

    private int settle(Place place) {
        if (places.size() == 60) {
            return NONE;
        }
        places.add(place);
        return places.size() - 1;
    }

    private void lay(int w, int h) {
        columns = w;
        rows = h;
        cells = new Cell[w * h];
        for (int c = 0; c < cells.length; c++) {
            cells[c] = new Cell();
        }
    }

    // ---- the ice, parties, places ----

    boolean ice(int w, int h) {
        if (!in(w, 4, 12) || !in(h, 4, 12) || !places.isEmpty() || !works.isEmpty()) {
            return false;
        }
        lay(w, h);
        return true;
    }

    boolean cell(int c, int height, int ground, int way, int days) {
        boolean isFlow = way == NONE ? days == 0 : in(way, 0, 7) && in(days, 10, 3600);
        if (!isCell(c) || !in(height, 0, 40) || !in(ground, 0, 3) || !isFlow) {
            return false;
        }
        cells[c].height = height;
        cells[c].ground = ground;
        cells[c].way = way;
        cells[c].days = days;
        return true;
    }

    boolean dark(int from, int to) {
        if (!in(from, 0, 359) || !in(to, from, 359)) {
            return false;
        }
        darkFrom = from;
        darkTo = to;
        return true;
    }

    int party(boolean decides) {
        if (parties.size() == 9) {
            return NONE;
        }
        Party party = new Party();
        party.decidesFrom = decides ? today : NONE;
        parties.add(party);
        return parties.size() - 1;
    }

    int claim(int p, int a, int b, int title) {
        boolean isRight = isThere(p, parties) && isRectangle(a, b) && in(title, 0, 999);
        return isRight && !law.areAsleep(p, today) ? settle(new Place(0, p, a, b, title)) : NONE;
    }

    boolean title(int k, int n) {
        Place claim = place(k, 0);
        if (claim == null || !in(n, 0, 999) || n > claim.value && law.areAsleep(claim.party, today)) {
            return false;
        }
        claim.value = n;
        return true;
    }

    int station(int p, int c, int people, int drums) {
        if (!isThere(p, parties) || !isFirm(c) || !in(people, 0, 500) || !in(drums, 0, 100000) || places.size() == 60) {
            return NONE;
        }
        Place station = new Place(1, p, c, NONE, NONE);
        station.people = people;
        station.drums = drums;
        station.since = today;
        sums[0] += drums;
        return settle(station);
    }

    int field(int k, int c) {
        return standing(k) == null || !isFirm(c) ? NONE : settle(new Place(2, places.get(k).party, c, NONE, k));
    }

    int reserve(int a, int b, int rank) {
        return isRectangle(a, b) && in(rank, 1, 9) ? settle(new Place(3, NONE, a, b, rank)) : NONE;
    }

    int site(int c, boolean nest) {
        return isCell(c) ? settle(new Place(nest ? 5 : 4, NONE, c, NONE, NONE)) : NONE;
    }

    // ---- the tape and texts ----

    int feed(int a, int b, int c, int d, int e) {
        if (tape.size() + 20 > 400) {
            return NONE;
        }
        for (int n : new int[] {a, b, c, d, e}) {
            tape.addAll(List.of(n >>> 24, n >>> 16 & 255, n >>> 8 & 255, n & 255));
        }
        return tape.size();
    }

    private List<Integer> takeTape(int n) {
        List<Integer> signs = tape.subList(0, n);
        tape = new ArrayList<>();
        return signs;
    }

    int text(int from, int to, int n) {
        boolean isRight = isDay(from) && isDay(to) && from <= to && in(n, 1, 200);
        if (!isRight || law.texts.size() == 20 || tape.size() < n) {
            return NONE;
        }
        try {
            law.texts.add(new SecondLaw.Text(from, to, SecondTexts.clausesOf(takeTape(n))));
            return law.texts.size() - 1;
        } catch (SecondTexts.Fault fault) {
            return fault.answer;
        }
    }

    boolean yes(int p, int i) {
        if (!isThere(p, parties) || i == 0 || !isThere(i, law.texts) || law.texts.get(i).yes[p] != NONE) {
            return false;
        }
        law.texts.get(i).yes[p] = today;
        return true;
    }

    int reading(int p, int i, int j, int n) {
        if (!isThere(p, parties) || !isThere(i, law.texts) || !isThere(j, law.texts.get(i).clauses)) {
            return NONE;
        }
        SecondTexts.Clause clause = law.texts.get(i).clauses.get(j);
        if (!clause.hasCondition() || !in(n, 1, 100) || law.readings.size() == 20 || tape.size() < n) {
            return NONE;
        }
        try {
            law.readings.add(new SecondLaw.Reading(p, clause, SecondTexts.readingOf(takeTape(n))));
            return 0;
        } catch (SecondTexts.Fault fault) {
            return fault.answer;
        }
    }

    int counts(int i, int p, int day) {
        if (!isThere(p, parties) || !isThere(i, law.texts) || !isDay(day)) {
            return NONE;
        }
        return (int) law.counting(p, day).stream().filter(place -> place.text == i).count();
    }

    int number(int which, int p, int day) {
        if (!isThere(p, parties) || !isDay(day)) {
            return NONE;
        }
        if (in(which, 10, 25)) {
            return law.limit(p, day, (which - 10) / 4, (which - 10) % 4);
        }
        switch (which) {
            case 0:
                return Math.max(0, law.number(p, day, 'a'));
            case 1:
                return law.number(p, day, 'q');
            case 2:
                return Math.max(0, law.number(p, day, 'g'));
            case 3:
                return law.areAsleep(p, day) ? 1 : 0;
            default:
                return NONE;
        }
    }

    int decides(int p, int day) {
        return !isThere(p, parties) || !isDay(day) ? NONE : doesDecide(parties.get(p), day) ? 1 : 0;
    }

    // ---- works ----

    int work(int kind, int p, int c, int from, int to, int people, int noise) {
        boolean isRight = in(kind, 0, 9) && isThere(p, parties) && isCell(c) && in(people, 0, 500) && in(noise, 0, 99);
        if (!isRight || !in(from, today, 3599) || !in(to, from, 3599) || works.size() == 100) {
            return NONE;
        }
        Work work = new Work();
        work.kind = kind;
        work.party = p;
        work.cell = c;
        work.from = from;
        work.to = to;
        work.people = people;
        work.noise = noise;
        works.add(work);
        return works.size() - 1;
    }

    boolean tell(int w, int what) {
        if (!isThere(w, works) || !in(what, 0, 1)) {
            return false;
        }
        Work work = works.get(w);
        if ((what == 0 ? work.notice : work.leave) != NONE) {
            return false;
        }
        work.notice = what == 0 ? today : work.notice;
        work.leave = what == 1 ? today : work.leave;
        return true;
    }

    boolean study(int w, int harm) {
        if (!isThere(w, works) || !in(harm, 0, 1000) || works.get(w).study != NONE) {
            return false;
        }
        works.get(w).study = today;
        works.get(w).harm = harm;
        return true;
    }

    boolean say(int p, int w, boolean yes) {
        if (!isThere(p, parties) || !isThere(w, works)) {
            return false;
        }
        works.get(w).said.put(p, yes);
        return true;
    }

    private boolean hasConsent(Work work, int day) {
        int deciding = 0;
        int yes = 0;
        for (int p = 0; p < parties.size(); p++) {
            if (doesDecide(parties.get(p), day)) {
                deciding++;
                if (!work.said.getOrDefault(p, true)) {
                    return false;
                }
                yes += work.said.containsKey(p) ? 1 : 0;
            }
        }
        return yes > deciding / 2;
    }

    private int countNear(int kind, int c, int most, int otherThan) {
        return (int) places.stream().filter(p -> p.kind == kind && far(p.cell, c) <= most && p.party != otherThan).count();
    }

    private int[] lettersOf(Work work, int day) {
        int rank = places.stream().filter(p -> p.kind == 3 && has(p, work.cell)).mapToInt(p -> p.value).max().orElse(0);
        int decides = doesDecide(parties.get(work.party), day) ? 1 : 0;
        Cell cell = cells[work.cell];
        return new int[] {work.kind, work.party, decides, cell.height, cell.ground, rank, countNear(4, work.cell, 1, -9),
            countNear(5, work.cell, 2, -9), countNear(1, work.cell, 3, work.party), work.people, work.noise, day % 360, day / 360,
            isDark(day) ? 1 : 0};
    }

    /** Why the work may not be done, then the text and the clause that bar it. */
    private int[] judge(Work work, int day, boolean own) {
        int[] letters = lettersOf(work, day);
        for (SecondLaw.Place place : law.counting(work.party, day)) {
            if (place.clause.hasCondition()) {
                int bar = bar(place.clause, work, day, own ? law.asReadBy(work.party, place.clause) : place.clause.condition, letters);
                if (bar != 0) {
                    return new int[] {bar, place.text, place.number};
                }
            }
        }
        return new int[] {0, NONE, NONE};
    }

    private int bar(SecondTexts.Clause clause, Work work, int day, SecondTexts.Condition condition, int[] letters) {
        try {
            if (!condition.holds(letters)) {
                return 0;
            }
        } catch (SecondTexts.Refused refused) {
            return 6;
        }
        switch (clause.letter) {
            case 'f':
                return 1;
            case 'l':
                return in(work.leave, 0, day) ? 0 : 2;
            case 'n':
                return in(work.notice, 0, work.from - clause.n) ? 0 : 3;
            case 's':
                return in(work.study, 0, work.from - clause.n) ? 0 : 4;
            default:
                return hasConsent(work, day) ? 0 : 5;
        }
    }

    int may(int w, int day, boolean own) {
        return isThere(w, works) && isDay(day) ? judge(works.get(w), day, own)[0] : NONE;
    }

    int why(int w, int day, boolean own, int what) {
        return isThere(w, works) && isDay(day) && in(what, 0, 1) ? judge(works.get(w), day, own)[1 + what] : NONE;
    }

    int whose(int p, int c) {
        if (!isThere(p, parties) || !isCell(c)) {
            return NONE;
        }
        Party party = parties.get(p);
        if (party.decidesFrom == NONE || today - party.decidesFrom < number(0, p, today)) {
            return -2;
        }
        int best = NONE;
        for (int k = places.size() - 1; k >= 0; k--) {
            Place claim = places.get(k);
            if (claim.kind == 0 && has(claim, c) && (best == NONE || claim.value >= places.get(best).value)) {
                best = k;
            }
        }
        return best;
    }

    // ---- ships, sledges, stations ----

    int ship(int p, int room, int strength) {
        if (!isThere(p, parties) || !in(room, 1, 10000) || !in(strength, 0, 100) || ships.size() == 10) {
            return NONE;
        }
        Ship ship = new Ship();
        ship.party = p;
        ship.room = room;
        ship.strength = strength;
        ships.add(ship);
        return ships.size() - 1;
    }

    boolean cover(int sea, int month, int n) {
        if (!in(sea, 0, 3) || !in(month, 0, 11) || !in(n, 0, 100)) {
            return false;
        }
        covers[sea][month] = n;
        return true;
    }

    boolean sea(int sea, int days) {
        if (!in(sea, 0, 3) || !in(days, 1, 90)) {
            return false;
        }
        seaDays[sea] = days;
        return true;
    }

    boolean voyage(int s, int sea, int station, int drums) {
        if (!isThere(s, ships) || !in(sea, 0, 3) || standing(station) == null || !in(drums, 0, ships.get(s).room)) {
            return false;
        }
        Ship ship = ships.get(s);
        if (ship.state != 0 || !isSeaNear(places.get(station).cell)) {
            return false;
        }
        ship.state = 1;
        ship.sea = sea;
        ship.station = station;
        ship.seaDays = seaDays[sea];
        ship.drums = drums;
        ship.due = today + seaDays[sea];
        ship.waited = 0;
        sums[0] += drums;
        return true;
    }

    int sledge(int from, int to, int drums) {
        Place start = standing(from);
        Place goal = standing(to);
        if (start == null || goal == null || from == to || start.party != goal.party || sledgesEver == 40) {
            return NONE;
        }
        if (!in(drums, 1, Math.min(500, start.drums)) || daysOfWay(start.cell, goal.cell) >= drums) {
            return NONE;
        }
        int days = daysOfWay(start.cell, goal.cell);
        start.drums -= drums;
        sums[1] += days;
        Sledge sledge = new Sledge();
        sledge.to = to;
        sledge.cell = goal.cell;
        sledge.due = today + Math.max(1, days);
        sledge.drums = drums - days;
        sledges.add(sledge);
        sledgesEver++;
        return sledge.due;
    }

    /** Steps are tried again and again until nothing is nearer any more. */
    private int daysOfWay(int from, int to) {
        int[] days = new int[cells.length];
        Arrays.fill(days, 1000000);
        days[from] = 0;
        boolean isNearer = true;
        while (isNearer) {
            isNearer = false;
            for (int a = 0; a < cells.length; a++) {
                for (int b = 0; b < cells.length; b++) {
                    int through = days[a] + 1 + Math.abs(cells[a].height - cells[b].height);
                    if (far(a, b) == 1 && isFirm(b) && through < days[b]) {
                        days[b] = through;
                        isNearer = true;
                    }
                }
            }
        }
        return days[to];
    }

    boolean people(int k, int n) {
        if (standing(k) == null || !in(n, -500, 500) || !in(places.get(k).people + n, 0, 500)) {
            return false;
        }
        places.get(k).people += n;
        return true;
    }

    boolean hide(int k, int n) {
        if (standing(k) == null || !in(n, -places.get(k).hidden, places.get(k).drums)) {
            return false;
        }
        places.get(k).drums -= n;
        places.get(k).hidden += n;
        return true;
    }

    boolean declare(int k, int people, int drums) {
        if (place(k, 1) == null || !in(people, 0, 500) || !in(drums, 0, 1000000)) {
            return false;
        }
        places.get(k).declaredPeople = people;
        places.get(k).declaredDrums = drums;
        return true;
    }

    int visit(int p, int k) {
        Place station = standing(k);
        if (!isThere(p, parties) || station == null || station.party == p || !doesDecide(parties.get(p), today) || visits.size() == 60) {
            return NONE;
        }
        int people = station.people - station.declaredPeople;
        visits.add(new int[] {p, k, today, people, station.drums - station.declaredDrums});
        return visits.size() - 1;
    }

    int seen(int v, int what) {
        return isThere(v, visits) && in(what, 0, 4) ? visits.get(v)[what] : -1000000;
    }

    // ---- a day goes by ----

    int day() {
        if (today == 3599) {
            return NONE;
        }
        today++;
        for (int w = 0; w < works.size(); w++) {
            workDay(w, works.get(w));
        }
        for (int p = 0; p < parties.size(); p++) {
            int enough = law.number(p, today, 'q');
            if (parties.get(p).decidesFrom == NONE && enough != NONE && parties.get(p).science >= enough) {
                parties.get(p).decidesFrom = today;
            }
        }
        for (int k = 0; k < places.size(); k++) {
            if (standing(k) != null) {
                stationDay(k, places.get(k));
            }
        }
        ships.forEach(this::shipDay);
        sledges.stream().filter(sledge -> sledge.due == today).forEach(this::sledgeComes);
        sledges.removeIf(sledge -> sledge.due == today);
        return today;
    }

    private void workDay(int w, Work work) {
        if (!in(today, work.from, work.to)) {
            return;
        }
        if (judge(work, today, false)[0] != 0) {
            work.held++;
            return;
        }
        work.done++;
        parties.get(work.party).science += work.kind == 0 ? 1 : 0;
        for (Place place : places) {
            int far = far(place.cell, work.cell);
            place.noise[today / 360] += place.kind == 5 && far <= 3 ? work.noise / (far + 1) : 0;
        }
        for (Drill drill : drills) {
            if (drill.work == w) {
                int down = drill.depth + speeds[Math.min(9, drill.depth / 500)];
                drill.depth = Math.max(drill.depth, Math.min(down, drill.site.sure() - margin));
            }
        }
    }

    private void stationDay(int k, Place station) {
        int tens = station.people / 10 + (station.people % 10 > 0 ? 1 : 0);
        int need = isDark(today) ? 2 * tens : tens;
        int burnt = Math.min(need, station.drums);
        station.drums -= burnt;
        sums[1] += burnt;
        station.cold = burnt < need ? station.cold + 1 : 0;
        if (station.cold == 10) {
            goHome(station);
        }
        int waste = station.people / 50 + (station.people % 50 > 0 ? 1 : 0);
        station.waste[isDark(today) ? 3 : 0] += waste;
        sums[4] += waste;
        Cell cell = cells[station.cell];
        if (cell.ground == 0 && cell.way != NONE && today - station.since >= cell.days) {
            flow(k, station, cell.way);
        }
    }

    private void goHome(Place station) {
        sums[7] += station.people;
        station.people = 0;
    }

    private void flow(int k, Place station, int way) {
        int next = next(station.cell, way);
        boolean isLost = !isFirm(next);
        for (Place field : places) {
            if (field.kind == 2 && field.value == k && !field.lost) {
                int fieldNext = next(field.cell, way);
                field.lost = isLost || !isFirm(fieldNext);
                field.cell = next == NONE || fieldNext == NONE ? field.cell : fieldNext;
            }
        }
        if (next != NONE) {
            station.cell = next;
            station.since = today;
        }
        if (isLost) {
            lose(station);
        }
    }

    private int next(int c, int way) {
        int down = way == 7 || way <= 1 ? -1 : in(way, 3, 5) ? 1 : 0;
        int right = in(way, 1, 3) ? 1 : in(way, 5, 7) ? -1 : 0;
        int row = c / columns + down;
        int column = c % columns + right;
        return in(row, 0, rows - 1) && in(column, 0, columns - 1) ? row * columns + column : NONE;
    }

    private void lose(Place station) {
        station.lost = true;
        sums[2] += station.drums + station.hidden;
        station.drums = 0;
        station.hidden = 0;
        sums[5] += Arrays.stream(station.waste).sum();
        Arrays.fill(station.waste, 0);
        goHome(station);
    }

    private void shipDay(Ship ship) {
        if (ship.state == 3 && ship.due == today) {
            sums[3] += ship.drums;
            sums[6] += ship.waste;
            ship.drums = 0;
            ship.waste = 0;
            ship.state = 0;
            ship.due = NONE;
        } else if (ship.state == 2 || ship.state == 1 && ship.due == today) {
            atTheIce(ship);
        }
    }

    private void atTheIce(Ship ship) {
        boolean isOpen = covers[ship.sea][today % 360 / 30] <= ship.strength;
        if (isOpen) {
            unload(ship, standing(ship.station));
        } else {
            ship.waited++;
            ship.state = 2;
            ship.due = NONE;
        }
        if (isOpen || ship.waited == 60) {
            ship.state = 3;
            ship.due = today + ship.seaDays;
        }
    }

    private void unload(Ship ship, Place station) {
        if (station == null || !isSeaNear(station.cell)) {
            return;
        }
        station.drums += ship.drums;
        ship.drums = 0;
        for (int rank = 3; rank >= 0; rank--) {
            while (station.waste[rank] > 0 && ship.waste < ship.room) {
                station.waste[rank]--;
                ship.waste++;
            }
        }
    }

    private void sledgeComes(Sledge sledge) {
        Place goal = standing(sledge.to);
        if (goal != null && goal.cell == sledge.cell) {
            goal.drums += sledge.drums;
        } else {
            sums[2] += sledge.drums;
        }
    }

    // ---- drills, nests, catches ----

    boolean sound(int k, int depth, int wrong) {
        if (place(k, 4) == null || !in(depth, 1, 5000) || !in(wrong, 0, 1000) || places.get(k).soundings.size() == 8) {
            return false;
        }
        return places.get(k).soundings.add(new int[] {depth, wrong});
    }

    int sure(int k) {
        return place(k, 4) == null ? NONE : places.get(k).sure();
    }

    int drill(int k, int w) {
        if (place(k, 4) == null || !isThere(w, works) || works.get(w).kind != 2 || works.get(w).cell != places.get(k).cell) {
            return NONE;
        }
        if (drills.size() == 10) {
            return NONE;
        }
        Drill drill = new Drill();
        drill.site = places.get(k);
        drill.work = w;
        drills.add(drill);
        return drills.size() - 1;
    }

    boolean speed(int part, int n) {
        if (part == NONE ? !in(n, 0, 1000) : !in(part, 0, 9) || !in(n, 1, 200)) {
            return false;
        }
        if (part == NONE) {
            margin = n;
        } else {
            speeds[part] = n;
        }
        return true;
    }

    boolean birds(int k, int year, int n) {
        if (place(k, 5) == null || !in(year, 0, 9) || !in(n, 0, 100000)) {
            return false;
        }
        places.get(k).counts.put(year, n);
        return true;
    }

    int loss(int k, int a, int b, int e, int what) {
        if (place(k, 5) == null || !in(a, 0, 9) || !in(b, a + 1, 9) || !in(e, 0, 99) || !in(what, 0, 1)) {
            return -1000000;
        }
        Map<Integer, Integer> counts = places.get(k).counts;
        if (!counts.containsKey(a) || !counts.containsKey(b)) {
            return -1000000;
        }
        int sign = what == 0 ? -1 : 1;
        return counts.get(a) + sign * hundredths(counts.get(a), e) - (counts.get(b) - sign * hundredths(counts.get(b), e));
    }

    private static int hundredths(int n, int e) {
        return (int) Math.ceil(n * (double) e / 100);
    }

    int noise(int k, int year) {
        return place(k, 5) == null || !in(year, 0, 9) ? NONE : places.get(k).noise[year];
    }

    int caught(int s, int kind, int sea, int tonnes, int day) {
        boolean isRight = isThere(s, ships) && in(kind, 0, 3) && in(sea, 0, 3) && in(tonnes, 1, 1000000) && in(day, 0, today);
        if (!isRight || catches.size() == 200) {
            return NONE;
        }
        catches.add(new int[] {s, kind, sea, tonnes, day});
        return catches.size() - 1;
    }

    int over() {
        List<int[]> byDays = new ArrayList<>(catches);
        byDays.sort((one, other) -> Integer.compare(one[4], other[4]));
        Map<List<Integer>, Integer> all = new HashMap<>();
        for (int[] c : byDays) {
            int tonnes = all.merge(List.of(c[1], c[2], c[4] / 360), c[3], Integer::sum);
            int limit = law.limit(ships.get(c[0]).party, c[4], c[1], c[2]);
            if (limit != NONE && tonnes > limit) {
                return catches.indexOf(c);
            }
        }
        return NONE;
    }

    int doubt(int what) {
        for (int i = 0; i < catches.size() && in(what, 0, 1); i++) {
            for (int j = i + 1; j < catches.size(); j++) {
                int[] one = catches.get(i);
                int[] other = catches.get(j);
                int days = (seaDays[one[2]] + seaDays[other[2]]) / 4;
                if (one[0] == other[0] && one[2] != other[2] && Math.abs(one[4] - other[4]) < days) {
                    return what == 0 ? i : j;
                }
            }
        }
        return NONE;
    }

    // ---- words ----

    int word(int worth) {
        if (!in(worth, 0, 1000) || words.size() == 7) {
            return NONE;
        }
        words.add(worth);
        return words.size() - 1;
    }

    boolean asks(int p, int w, int other) {
        if (!isThere(p, parties) || !isThere(w, words) || other != NONE && !isThere(other, words) || w == other) {
            return false;
        }
        return other == NONE ? parties.get(p).bars.add(w) : parties.get(p).wants.add(List.of(w, other));
    }

    private static boolean isIn(int set, int w) {
        return (set >> w & 1) == 1;
    }

    private boolean doesBlock(Party party, int set) {
        return party.bars.stream().anyMatch(w -> isIn(set, w))
                || party.wants.stream().anyMatch(want -> isIn(set, want.get(1)) && !isIn(set, want.get(0)));
    }

    int blocks(int set) {
        if (!in(set, 0, (1 << words.size()) - 1)) {
            return NONE;
        }
        int bits = 0;
        for (int p = 0; p < parties.size(); p++) {
            bits += doesBlock(parties.get(p), set) ? 1 << p : 0;
        }
        return bits;
    }

    int best() {
        int best = 0;
        for (int set = (1 << words.size()) - 1; set > 0; set--) {
            int candidate = set;
            if (parties.stream().noneMatch(p -> doesDecide(p, today) && doesBlock(p, candidate)) && rank(set) >= rank(best)) {
                best = set;
            }
        }
        return best;
    }

    /** Most worth, then fewest. */
    private int rank(int set) {
        int rank = 0;
        for (int w = 0; w < words.size(); w++) {
            rank += isIn(set, w) ? 10 * words.get(w) - 1 : 0;
        }
        return rank;
    }

    // ---- the season ----

    int stop(int k, int need) {
        if (standing(k) == null || !in(need, 0, 10000) || stops.size() == 8 || stops.stream().anyMatch(stop -> stop.station == k)) {
            return NONE;
        }
        Stop stop = new Stop();
        stop.station = k;
        stop.need = need;
        stops.add(stop);
        return stops.size() - 1;
    }

    boolean open(int i, int x, int from, int to) {
        if (!in(i, 0, 2) || !isThere(x, stops) || !in(from, 0, 359) || !in(to, from, 359)) {
            return false;
        }
        stops.get(x).from[i] = from;
        stops.get(x).to[i] = to;
        return true;
    }

    int plan(int s, int sea, int from) {
        bestEnd = NONE;
        boolean isRight = isThere(s, ships) && in(sea, 0, 3) && in(from, 0, 359) && !stops.isEmpty();
        if (isRight && stops.stream().mapToInt(stop -> stop.need).sum() <= ships.get(s).room) {
            int day = from + seaDays[sea];
            tryOrders(new ArrayList<>(), new int[] {day, day, day});
        }
        return bestEnd;
    }

    /** Days are those on which the ship leaves its last stop in each ice. */
    private void tryOrders(List<Integer> order, int[] days) {
        int end = Arrays.stream(days).max().orElse(NONE);
        if (order.size() == stops.size()) {
            if (bestEnd == NONE || end < bestEnd) {
                bestEnd = end;
                bestOrder = order.stream().mapToInt(x -> x).toArray();
            }
            return;
        }
        for (int x = 0; x < stops.size(); x++) {
            int[] next = order.contains(x) ? null : daysAt(order, days, stops.get(x));
            if (next != null) {
                order.add(x);
                tryOrders(order, next);
                order.remove(order.size() - 1);
            }
        }
    }

    private int[] daysAt(List<Integer> order, int[] days, Stop stop) {
        int[] next = days.clone();
        for (int i = 0; i < 3; i++) {
            if (!order.isEmpty()) {
                int last = stops.get(order.get(order.size() - 1)).station;
                next[i] += 2 * far(places.get(last).cell, places.get(stop.station).cell);
            }
            if (next[i] > stop.to[i]) {
                return null;
            }
            next[i] = Math.max(next[i], stop.from[i]);
        }
        return next;
    }

    int planned(int s, int sea, int from, int i) {
        return plan(s, sea, from) == NONE || !isThere(i, stops) ? NONE : bestOrder[i];
    }

    // ---- what was known when ----

    boolean report(int k, int day, int n, boolean is) {
        if (place(k, 1) == null || !in(day, 0, today) || is && !in(n, -1000, 1000000) || reports.size() == 200) {
            return false;
        }
        return reports.add(new int[] {k, day, is ? n : -1000001, today});
    }

    int known(int k, int d, int t) {
        if (place(k, 1) == null || !isDay(d) || !isDay(t)) {
            return -1000001;
        }
        int told = -1000001;
        for (int[] report : reports) {
            told = report[0] == k && report[1] == d && report[3] <= t ? report[2] : told;
        }
        for (int day = d - 1; day >= 0 && told == -1000001; day--) {
            for (int[] report : reports) {
                boolean isNumber = report[2] != -1000001;
                told = report[0] == k && report[1] == day && report[3] <= t && isNumber ? report[2] : told;
            }
        }
        return told;
    }

    int check(int n) {
        if (!in(n, 0, tape.size() / 8)) {
            return -2;
        }
        List<Integer> signs = takeTape(8 * n);
        List<Integer> due = new ArrayList<>();
        for (int k = 0; k < places.size(); k++) {
            if (standing(k) != null) {
                due.addAll(List.of(k, places.get(k).drums + places.get(k).hidden));
            }
        }
        for (int i = 0; i < 2 * n; i++) {
            int told = signs.get(4 * i) << 24 | signs.get(4 * i + 1) << 16 | signs.get(4 * i + 2) << 8 | signs.get(4 * i + 3);
            if (i >= due.size() || due.get(i) != told) {
                return i;
            }
        }
        return due.size() > 2 * n ? 2 * n : NONE;
    }

    // ---- how all stands ----

    int look(int k, int what) {
        if (!isThere(k, places)) {
            return NONE;
        }
        Place p = places.get(k);
        int[] ofAll = {p.kind, p.party, p.cell, p.lowerRight, p.value, p.lost ? 1 : 0};
        int[] w = p.waste;
        int[] ofStations = {p.people, p.drums, p.hidden, p.cold, w[0], w[1], w[2], w[3]};
        return in(what, 0, 5) ? ofAll[what] : p.kind == 1 && in(what, 6, 13) ? ofStations[what - 6] : NONE;
    }

    int at(int s, int what) {
        if (!isThere(s, ships) || !in(what, 0, 4)) {
            return NONE;
        }
        Ship ship = ships.get(s);
        return new int[] {ship.state, ship.drums, ship.waste, ship.due, ship.waited}[what];
    }

    int about(int w, int what) {
        if (!isThere(w, works) || !in(what, 0, 10)) {
            return NONE;
        }
        Work k = works.get(w);
        return new int[] {k.kind, k.party, k.cell, k.from, k.to, k.done, k.held, k.notice, k.leave, k.study, k.harm}[what];
    }

    long sum(int what) {
        if (in(what, 0, 7)) {
            return sums[what];
        }
        if (in(what, 10, 18) && isThere(what - 10, parties)) {
            return parties.get(what - 10).science;
        }
        return in(what, 20, 29) && isThere(what - 20, drills) ? drills.get(what - 20).depth : NONE;
    }

    int count(int what) {
        int[] counts = {today, columns, rows, parties.size(), places.size(), law.texts.size(), law.readings.size(), works.size(),
            ships.size(), sledges.size(), visits.size(), drills.size(), catches.size(), words.size(), stops.size(), reports.size(),
            tape.size()};
        if (in(what, 0, 16)) {
            return counts[what];
        }
        return in(what, 20, 28) && isThere(what - 20, parties) ? parties.get(what - 20).decidesFrom : NONE;
    }
}
