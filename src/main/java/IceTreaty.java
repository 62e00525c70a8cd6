/** A land that is nobody's, under a treaty: what stands on it, what its texts bar, and what was told when. */
public final class IceTreaty {

    public static final int NONE = -1;

    private static final int REFUSED = -2;
    private static final int NO_DIFFERENCE = -1000000;
    private static final int NOTHING_KNOWN = -1000001;

    private static final int YEAR_DAYS = 360;
    private static final int MONTH_DAYS = 30;
    private static final int YEARS = 10;
    private static final int DAYS = YEARS * YEAR_DAYS;

    private static final int ICE = 0;
    private static final int ROCK = 1;
    private static final int SEA = 2;
    private static final int CREVASSES = 3;
    private static final int MOST_CELLS = 144;
    private static final int SEAS = 4;
    private static final int MONTHS = 12;

    private static final int CLAIM = 0;
    private static final int STATION = 1;
    private static final int FIELD = 2;
    private static final int RESERVE = 3;
    private static final int SITE = 4;
    private static final int NEST = 5;

    private static final int MOST_PARTIES = 9;
    private static final int MOST_PLACES = 60;
    private static final int MOST_WORKS = 100;
    private static final int MOST_SHIPS = 10;
    private static final int MOST_TEXTS = 20;
    private static final int MOST_READINGS = 20;
    private static final int MOST_CLAUSES = 12;
    private static final int MOST_BYTES = 200;
    private static final int MOST_READING_BYTES = 100;
    private static final int MOST_TAPE = 400;
    private static final int MOST_WORDS = 7;
    private static final int MOST_STOPS = 8;
    private static final int ICES = 3;

    // The kinds of works that the document names.
    private static final int SCIENCE = 0;
    private static final int DRILLING = 2;

    // The letters of a clause's condition, in the order of the row that holds their values.
    private static final String LETTERS = "apbhirsnotedym";
    private static final int LETTER_KIND = 0;
    private static final int LETTER_PARTY = 1;
    private static final int LETTER_DECIDES = 2;
    private static final int LETTER_HEIGHT = 3;
    private static final int LETTER_GROUND = 4;
    private static final int LETTER_RANK = 5;
    private static final int LETTER_SITES = 6;
    private static final int LETTER_NESTS = 7;
    private static final int LETTER_STATIONS = 8;
    private static final int LETTER_PEOPLE = 9;
    private static final int LETTER_NOISE = 10;
    private static final int LETTER_DAY = 11;
    private static final int LETTER_YEAR = 12;
    private static final int LETTER_DARK = 13;

    // What one step of a written condition does; its operand stands above these bits.
    private static final int STEP_BITS = 5;
    private static final int STEP_MASK = 31;
    private static final int NUMBER = 0;
    private static final int LETTER = 1;
    private static final int NOT = 2;
    private static final int OR = 3;
    private static final int AND = 4;
    private static final int PLUS = 5;
    private static final int MINUS = 6;
    private static final int TIMES = 7;
    private static final int THROUGH = 8;
    private static final int REST = 9;
    private static final int LESS = 10;
    private static final int MORE = 11;
    private static final int SAME = 12;

    // The columns of a text's clauses.
    private static final int CLAUSE_LETTER = 0;
    private static final int CLAUSE_N = 1;
    private static final int CLAUSE_FIRST = 2;
    private static final int CLAUSE_SECOND = 3;
    private static final int CLAUSE_START = 4;
    private static final int CLAUSE_END = 5;
    private static final int CLAUSE_WIDTH = 6;

    private static final int FAULT_SIGN = 1;
    private static final int FAULT_DIGIT = 2;
    private static final int FAULT_NUMBER = 3;
    private static final int FAULT_CLAUSE = 4;
    private static final int FAULT_DEPTH = 5;
    private static final int MOST_DEPTH = 8;
    private static final int MOST_DIGITS = 6;
    private static final int MOST_NUMBER = 999999;

    private static final int BAR_FORBIDDEN = 1;
    private static final int BAR_LEAVE = 2;
    private static final int BAR_NOTICE = 3;
    private static final int BAR_STUDY = 4;
    private static final int BAR_CONSENT = 5;
    private static final int BAR_REFUSED = 6;

    private static final int AT_HOME = 0;
    private static final int ON_WAY = 1;
    private static final int WAITING = 2;
    private static final int RETURNING = 3;
    private static final int MOST_WAITING = 60;
    private static final int MOST_COLD = 10;
    private static final int WASTE_RANKS = 4;

    private static final int DRUMS_BROUGHT = 0;
    private static final int DRUMS_BURNT = 1;
    private static final int DRUMS_LOST = 2;
    private static final int DRUMS_HOME = 3;
    private static final int WASTE_MADE = 4;
    private static final int WASTE_LOST = 5;
    private static final int WASTE_HOME = 6;
    private static final int PEOPLE_HOME = 7;
    private static final int SUMS = 8;

    // The columns of sledges, visits, drills, catches, reports, readings and stops.
    private static final int SLEDGE_TO = 0;
    private static final int SLEDGE_CELL = 1;
    private static final int SLEDGE_DAY = 2;
    private static final int SLEDGE_DRUMS = 3;
    private static final int SLEDGE_GOES = 4;
    private static final int DRILL_SITE = 0;
    private static final int DRILL_WORK = 1;
    private static final int DRILL_DEPTH = 2;
    private static final int CATCH_SHIP = 0;
    private static final int CATCH_KIND = 1;
    private static final int CATCH_SEA = 2;
    private static final int CATCH_TONNES = 3;
    private static final int CATCH_DAY = 4;
    private static final int REPORT_STATION = 0;
    private static final int REPORT_DAY = 1;
    private static final int REPORT_NUMBER = 2;
    private static final int REPORT_IS = 3;
    private static final int REPORT_TOLD = 4;
    private static final int READING_PARTY = 0;
    private static final int READING_TEXT = 1;
    private static final int READING_CLAUSE = 2;
    private static final int STOP_STATION = 0;
    private static final int STOP_NEED = 1;

    private static final int SPEED_PARTS = 10;
    private static final int SPEED_METRES = 500;
    private static final int MARGIN = SPEED_PARTS;

    private final Land land = new Land();
    private final Law law = new Law();
    private final Season season = new Season();
    private final Party[] parties = new Party[MOST_PARTIES];
    private int partyCount = 0;
    private final Place[] places = new Place[MOST_PLACES];
    private int placeCount = 0;
    private final Work[] works = new Work[MOST_WORKS];
    private int workCount = 0;
    private final Ship[] ships = new Ship[MOST_SHIPS];
    private int shipCount = 0;
    private final Table sledges = new Table(5, 40);
    private final Table visits = new Table(5, 60);
    private final Table drills = new Table(3, 10);
    private final Table catches = new Table(5, 200);
    private final Table reports = new Table(5, 200);
    private final Table words = new Table(1, MOST_WORDS);
    private final Table tape = new Table(1, MOST_TAPE);
    private final int[] speeds = new int[SPEED_PARTS + 1];
    private final long[] sums = new long[SUMS];

    public IceTreaty() {
        Rows.fill(speeds, 50);
        Rows.put(speeds, MARGIN, 100);
    }

    // ---- the ice ----

    public boolean ice(int w, int h) {
        if (!between(w, 4, 12) || !between(h, 4, 12) || placeCount > 0 || workCount > 0) {
            return false;
        }
        land.lay(w, h);
        return true;
    }

    public boolean cell(int c, int height, int ground, int way, int days) {
        boolean stays = way == NONE && days == 0;
        boolean flows = between(way, 0, 7) && between(days, 10, 3600);
        if (!land.isCell(c) || !between(height, 0, 40) || !between(ground, ICE, CREVASSES) || !stays && !flows) {
            return false;
        }
        Rows.put(land.heights, c, height);
        Rows.put(land.grounds, c, ground);
        Rows.put(land.ways, c, way);
        Rows.put(land.flowDays, c, days);
        return true;
    }

    public boolean dark(int from, int to) {
        if (!areYearDays(from, to)) {
            return false;
        }
        land.darkFrom = from;
        land.darkTo = to;
        return true;
    }

    // ---- parties and places ----

    public int party(boolean decides) {
        if (partyCount >= parties.length) {
            return NONE;
        }
        parties[partyCount] = new Party(decides ? land.today : NONE);
        return partyCount++;
    }

    public int claim(int p, int a, int b, int title) {
        Party party = partyOf(p);
        if (party == null || !land.isRectangle(a, b) || !between(title, 0, 999) || claimsAreAsleep(p, party)) {
            return NONE;
        }
        return settle(new Place(CLAIM, p, a, b, title));
    }

    public boolean title(int k, int n) {
        Place claim = placeOf(k, CLAIM);
        if (claim == null || !between(n, 0, 999)) {
            return false;
        }
        Party party = partyOf(claim.owner);
        if (n > claim.rank && party != null && claimsAreAsleep(claim.owner, party)) {
            return false;
        }
        claim.rank = n;
        return true;
    }

    public int station(int p, int c, int people, int drums) {
        if (partyOf(p) == null || !land.isFirm(c) || !between(people, 0, 500) || !between(drums, 0, 100000)) {
            return NONE;
        }
        Place station = new Place(STATION, p, c, NONE, NONE);
        station.people = people;
        station.drums = drums;
        station.since = land.today;
        int k = settle(station);
        if (k != NONE) {
            tally(DRUMS_BROUGHT, drums);
        }
        return k;
    }

    public int field(int k, int c) {
        Place station = standingStation(k);
        if (station == null || !land.isFirm(c)) {
            return NONE;
        }
        return settle(new Place(FIELD, station.owner, c, NONE, k));
    }

    public int reserve(int a, int b, int rank) {
        if (!land.isRectangle(a, b) || !between(rank, 1, 9)) {
            return NONE;
        }
        return settle(new Place(RESERVE, NONE, a, b, rank));
    }

    public int site(int c, boolean nest) {
        if (!land.isCell(c)) {
            return NONE;
        }
        return settle(new Place(nest ? NEST : SITE, NONE, c, NONE, NONE));
    }

    private int settle(Place place) {
        if (placeCount >= places.length) {
            return NONE;
        }
        places[placeCount] = place;
        return placeCount++;
    }

    // ---- the tape and the texts ----

    public int feed(int a, int b, int c, int d, int e) {
        if (tape.size + 20 > MOST_TAPE) {
            return NONE;
        }
        feedNumber(a);
        feedNumber(b);
        feedNumber(c);
        feedNumber(d);
        feedNumber(e);
        return tape.size;
    }

    private void feedNumber(int n) {
        for (int shift = 24; shift >= 0; shift -= 8) {
            tape.append(n >> shift & 255, 0, 0, 0, 0);
        }
    }

    private int fedNumber(int place) {
        int n = 0;
        for (int i = 0; i < 4; i++) {
            n = n << 8 | tape.get(4 * place + i, 0);
        }
        return n;
    }

    public int text(int from, int to, int n) {
        if (!areDays(from, to) || !between(n, 1, MOST_BYTES) || law.textCount >= MOST_TEXTS || n > tape.size) {
            return NONE;
        }
        Text text = new Text(from, to, n, MOST_CLAUSES);
        Scribe scribe = new Scribe(tape.cells, n, text);
        scribe.writeText();
        tape.size = 0;
        return scribe.fault != 0 ? scribe.faultAnswer() : law.addText(text);
    }

    public boolean yes(int p, int i) {
        Party party = partyOf(p);
        if (party == null || i == 0 || law.textOf(i) == null || Rows.get(party.yesDays, i) != NONE) {
            return false;
        }
        Rows.put(party.yesDays, i, land.today);
        law.forget();
        return true;
    }

    public int reading(int p, int i, int j, int n) {
        Text text = law.textOf(i);
        if (partyOf(p) == null || text == null || !text.hasCondition(j)) {
            return NONE;
        }
        if (!between(n, 1, MOST_READING_BYTES) || law.readings.isFull() || n > tape.size) {
            return NONE;
        }
        Text own = new Text(0, 0, n, 1);
        Scribe scribe = new Scribe(tape.cells, n, own);
        scribe.writeReading();
        tape.size = 0;
        if (scribe.fault != 0) {
            return scribe.faultAnswer();
        }
        law.addReading(p, i, j, own);
        return 0;
    }

    public int counts(int i, int p, int day) {
        Party party = partyOf(p);
        if (party == null || law.textOf(i) == null || !isDay(day)) {
            return NONE;
        }
        law.weigh(p, party, day);
        return Integer.bitCount(Rows.get(law.counting, i));
    }

    public int number(int which, int p, int day) {
        Party party = partyOf(p);
        boolean isCatch = between(which, 10, 25);
        if (party == null || !isDay(day) || !between(which, 0, 3) && !isCatch) {
            return NONE;
        }
        law.weigh(p, party, day);
        if (isCatch) {
            return law.numberOf('k', (which - 10) / 4, (which - 10) % 4);
        }
        switch (which) {
            case 0:
                return Math.max(0, law.numberOf('a', 0, 0));
            case 1:
                return law.numberOf('q', 0, 0);
            case 2:
                return Math.max(0, law.numberOf('g', 0, 0));
            default:
                return law.numberOf('z', 0, 0) == NONE ? 0 : 1;
        }
    }

    public int decides(int p, int day) {
        Party party = partyOf(p);
        if (party == null || !isDay(day)) {
            return NONE;
        }
        return party.decidesOn(day) ? 1 : 0;
    }

    private boolean claimsAreAsleep(int p, Party party) {
        law.weigh(p, party, land.today);
        return law.numberOf('z', 0, 0) != NONE;
    }

    // ---- works ----

    public int work(int kind, int p, int c, int from, int to, int people, int noise) {
        if (!between(kind, 0, 9) || partyOf(p) == null || !land.isCell(c) || workCount >= works.length) {
            return NONE;
        }
        if (!areDays(from, to) || from < land.today || !between(people, 0, 500) || !between(noise, 0, 99)) {
            return NONE;
        }
        Work work = new Work(kind, p, c, from, to);
        work.people = people;
        work.noise = noise;
        works[workCount] = work;
        return workCount++;
    }

    public boolean tell(int w, int what) {
        Work work = workOf(w);
        if (work == null) {
            return false;
        }
        if (what == 0 && work.notice == NONE) {
            work.notice = land.today;
            return true;
        }
        if (what == 1 && work.leave == NONE) {
            work.leave = land.today;
            return true;
        }
        return false;
    }

    public boolean study(int w, int harm) {
        Work work = workOf(w);
        if (work == null || !between(harm, 0, 1000) || work.study != NONE) {
            return false;
        }
        work.study = land.today;
        work.harm = harm;
        return true;
    }

    public boolean say(int p, int w, boolean yes) {
        Work work = workOf(w);
        if (partyOf(p) == null || work == null) {
            return false;
        }
        int bit = 1 << p;
        work.yeses = yes ? work.yeses | bit : work.yeses & ~bit;
        work.noes = yes ? work.noes & ~bit : work.noes | bit;
        return true;
    }

    public int may(int w, int day, boolean own) {
        Work work = workOf(w);
        if (work == null || !isDay(day)) {
            return NONE;
        }
        return judge(work, day, own);
    }

    public int why(int w, int day, boolean own, int what) {
        Work work = workOf(w);
        if (work == null || !isDay(day) || !between(what, 0, 1)) {
            return NONE;
        }
        judge(work, day, own);
        return what == 0 ? law.barText : law.barClause;
    }

    public int whose(int p, int c) {
        Party party = partyOf(p);
        if (party == null || !land.isCell(c)) {
            return NONE;
        }
        law.weigh(p, party, land.today);
        int wait = Math.max(0, law.numberOf('a', 0, 0));
        if (!party.decidesOn(land.today) || land.today - party.decidesFrom < wait) {
            return REFUSED;
        }
        int best = NONE;
        int bestTitle = NONE;
        for (int k = 0; k < placeCount; k++) {
            Place claim = placeOf(k, CLAIM);
            if (claim != null && claim.rank > bestTitle && land.isWithin(c, claim.first, claim.last)) {
                best = k;
                bestTitle = claim.rank;
            }
        }
        return best;
    }

    private int judge(Work work, int day, boolean own) {
        Party party = partyOf(work.owner);
        if (party == null) {
            return NONE;
        }
        tellLetters(work, party, day);
        tellNeighbours(work);
        law.weigh(work.owner, party, day);
        return law.judge(work, day, own, hasConsent(work, day));
    }

    private boolean hasConsent(Work work, int day) {
        int deciding = decidingOn(day);
        if ((work.noes & deciding) != 0) {
            return false;
        }
        return 2 * Integer.bitCount(work.yeses & deciding) > Integer.bitCount(deciding);
    }

    private int decidingOn(int day) {
        int bits = 0;
        for (int p = 0; p < partyCount; p++) {
            Party party = partyOf(p);
            if (party != null && party.decidesOn(day)) {
                bits |= 1 << p;
            }
        }
        return bits;
    }

    private void tellLetters(Work work, Party party, int day) {
        int[] letters = law.letters;
        Rows.put(letters, LETTER_KIND, work.kind);
        Rows.put(letters, LETTER_PARTY, work.owner);
        Rows.put(letters, LETTER_DECIDES, party.decidesOn(day) ? 1 : 0);
        Rows.put(letters, LETTER_HEIGHT, Rows.get(land.heights, work.cell));
        Rows.put(letters, LETTER_GROUND, Rows.get(land.grounds, work.cell));
        Rows.put(letters, LETTER_PEOPLE, work.people);
        Rows.put(letters, LETTER_NOISE, work.noise);
        Rows.put(letters, LETTER_DAY, day % YEAR_DAYS);
        Rows.put(letters, LETTER_YEAR, day / YEAR_DAYS);
        Rows.put(letters, LETTER_DARK, land.isDark(day) ? 1 : 0);
    }

    private void tellNeighbours(Work work) {
        int rank = 0;
        int sites = 0;
        int nests = 0;
        int stations = 0;
        for (int k = 0; k < placeCount; k++) {
            Place place = anyPlace(k);
            if (place == null) {
                continue;
            }
            if (place.kind == RESERVE && land.isWithin(work.cell, place.first, place.last)) {
                rank = Math.max(rank, place.rank);
            } else if (place.kind == SITE && land.far(work.cell, place.first) <= 1) {
                sites++;
            } else if (place.kind == NEST && land.far(work.cell, place.first) <= 2) {
                nests++;
            } else if (place.kind == STATION && place.owner != work.owner && land.far(work.cell, place.first) <= 3) {
                stations++;
            }
        }
        Rows.put(law.letters, LETTER_RANK, rank);
        Rows.put(law.letters, LETTER_SITES, sites);
        Rows.put(law.letters, LETTER_NESTS, nests);
        Rows.put(law.letters, LETTER_STATIONS, stations);
    }

    // ---- ships, sledges and stations ----

    public int ship(int p, int room, int strength) {
        if (partyOf(p) == null || !between(room, 1, 10000) || !between(strength, 0, 100)) {
            return NONE;
        }
        if (shipCount >= ships.length) {
            return NONE;
        }
        ships[shipCount] = new Ship(p, room, strength);
        return shipCount++;
    }

    public boolean cover(int sea, int month, int n) {
        if (!isSea(sea) || !between(month, 0, MONTHS - 1) || !between(n, 0, 100)) {
            return false;
        }
        Rows.put(land.covers, sea * MONTHS + month, n);
        return true;
    }

    public boolean sea(int sea, int days) {
        if (!isSea(sea) || !between(days, 1, 90)) {
            return false;
        }
        Rows.put(land.seaDays, sea, days);
        return true;
    }

    public boolean voyage(int s, int sea, int station, int drums) {
        Ship ship = shipOf(s);
        Place there = standingStation(station);
        if (ship == null || !isSea(sea) || there == null || !between(drums, 0, ship.room)) {
            return false;
        }
        if (ship.state != AT_HOME || !land.isNearSea(there.first)) {
            return false;
        }
        ship.leave(sea, station, drums, land.today, Rows.get(land.seaDays, sea));
        tally(DRUMS_BROUGHT, drums);
        return true;
    }

    public int sledge(int from, int to, int drums) {
        Place start = standingStation(from);
        Place goal = standingStation(to);
        if (start == null || goal == null || from == to || start.owner != goal.owner) {
            return NONE;
        }
        if (!between(drums, 1, 500) || drums > start.drums || sledges.isFull()) {
            return NONE;
        }
        int days = land.leastDays(start.first, goal.first);
        if (days == NONE || days >= drums) {
            return NONE;
        }
        start.drums -= drums;
        tally(DRUMS_BURNT, days);
        int due = land.today + Math.max(1, days);
        sledges.append(to, goal.first, due, drums - days, 1);
        return due;
    }

    public boolean people(int k, int n) {
        Place station = standingStation(k);
        if (station == null || !between(n, -500, 500) || !between(station.people + n, 0, 500)) {
            return false;
        }
        station.people += n;
        return true;
    }

    public boolean hide(int k, int n) {
        Place station = standingStation(k);
        if (station == null || n > station.drums || n < -station.hidden) {
            return false;
        }
        station.drums -= n;
        station.hidden += n;
        return true;
    }

    public boolean declare(int k, int people, int drums) {
        Place station = placeOf(k, STATION);
        if (station == null || !between(people, 0, 500) || !between(drums, 0, 1000000)) {
            return false;
        }
        station.toldPeople = people;
        station.toldDrums = drums;
        return true;
    }

    public int visit(int p, int k) {
        Party party = partyOf(p);
        Place station = standingStation(k);
        if (party == null || station == null || station.owner == p || !party.decidesOn(land.today)) {
            return NONE;
        }
        int people = station.people - station.toldPeople;
        return visits.append(p, k, land.today, people, station.drums - station.toldDrums);
    }

    public int seen(int v, int what) {
        if (!visits.has(v) || !between(what, 0, 4)) {
            return NO_DIFFERENCE;
        }
        return visits.get(v, what);
    }

    // ---- a day goes by ----

    public int day() {
        if (land.today >= DAYS - 1) {
            return NONE;
        }
        land.today++;
        season.forget();
        for (int w = 0; w < workCount; w++) {
            passWork(w);
        }
        admitParties();
        for (int k = 0; k < placeCount; k++) {
            passStation(k);
        }
        for (int s = 0; s < shipCount; s++) {
            passShip(shipOf(s));
        }
        for (int g = 0; g < sledges.size; g++) {
            passSledge(g);
        }
        return land.today;
    }

    private void passWork(int w) {
        Work work = workOf(w);
        if (work == null || land.today < work.from || land.today > work.to) {
            return;
        }
        if (judge(work, land.today, false) != 0) {
            work.daysHeld++;
            return;
        }
        work.daysDone++;
        Party party = partyOf(work.owner);
        if (work.kind == SCIENCE && party != null) {
            party.science++;
        }
        disturbNests(work);
        for (int d = 0; d < drills.size; d++) {
            if (drills.get(d, DRILL_WORK) == w) {
                goDown(d);
            }
        }
    }

    private void disturbNests(Work work) {
        int year = land.today / YEAR_DAYS;
        for (int k = 0; k < placeCount; k++) {
            Place nest = placeOf(k, NEST);
            if (nest == null) {
                continue;
            }
            int far = land.far(work.cell, nest.first);
            if (far >= 0 && far <= 3) {
                Rows.add(nest.noises, year, work.noise / (far + 1));
            }
        }
    }

    private void goDown(int d) {
        Place place = placeOf(drills.get(d, DRILL_SITE), SITE);
        if (place == null) {
            return;
        }
        int depth = drills.get(d, DRILL_DEPTH);
        int part = Math.min(depth / SPEED_METRES, SPEED_PARTS - 1);
        int deepest = place.sureDepth() - Rows.get(speeds, MARGIN);
        int next = Math.min(depth + Rows.get(speeds, part), deepest);
        drills.put(d, DRILL_DEPTH, Math.max(depth, next));
    }

    private void admitParties() {
        for (int p = 0; p < partyCount; p++) {
            Party party = partyOf(p);
            if (party == null || party.decidesFrom != NONE) {
                continue;
            }
            law.weigh(p, party, land.today);
            int needed = law.numberOf('q', 0, 0);
            if (needed != NONE && party.science >= needed) {
                party.decidesFrom = land.today;
            }
        }
    }

    private void passStation(int k) {
        Place station = standingStation(k);
        if (station == null) {
            return;
        }
        boolean isDark = land.isDark(land.today);
        burn(station, (station.people + 9) / 10 * (isDark ? 2 : 1));
        int waste = (station.people + 49) / 50;
        Rows.add(station.rows, isDark ? 3 : 0, waste);
        tally(WASTE_MADE, waste);
        if (land.carries(station.first, land.today - station.since)) {
            carry(k, station);
        }
    }

    private void burn(Place station, int need) {
        int burnt = Math.min(need, station.drums);
        station.drums -= burnt;
        tally(DRUMS_BURNT, burnt);
        station.cold = burnt < need ? station.cold + 1 : 0;
        if (station.cold == MOST_COLD) {
            sendPeopleHome(station);
        }
    }

    private void sendPeopleHome(Place station) {
        tally(PEOPLE_HOME, station.people);
        station.people = 0;
    }

    private void carry(int k, Place station) {
        int way = Rows.get(land.ways, station.first);
        int next = land.beside(station.first, way);
        boolean isLost = !land.isFirm(next);
        for (int i = 0; i < placeCount; i++) {
            Place field = placeOf(i, FIELD);
            if (field != null && field.rank == k && !field.lost) {
                carryField(field, next == NONE ? NONE : way, isLost);
            }
        }
        if (next != NONE) {
            station.first = next;
            station.since = land.today;
        }
        if (isLost) {
            loseStation(station);
        }
    }

    /** Way NONE: the station left the ice, so its field is told where it was. */
    private void carryField(Place field, int way, boolean isLost) {
        int next = land.beside(field.first, way);
        if (isLost || !land.isFirm(next)) {
            field.lost = true;
        }
        if (next != NONE) {
            field.first = next;
        }
    }

    private void loseStation(Place station) {
        station.lost = true;
        tally(DRUMS_LOST, station.drums);
        tally(DRUMS_LOST, station.hidden);
        station.drums = 0;
        station.hidden = 0;
        for (int r = 0; r < WASTE_RANKS; r++) {
            tally(WASTE_LOST, Rows.get(station.rows, r));
            Rows.put(station.rows, r, 0);
        }
        sendPeopleHome(station);
    }

    private void passShip(Ship ship) {
        if (ship == null) {
            return;
        }
        if (ship.state == WAITING || ship.state == ON_WAY && ship.due == land.today) {
            meetIce(ship);
        } else if (ship.state == RETURNING && ship.due == land.today) {
            comeHome(ship);
        }
    }

    private void meetIce(Ship ship) {
        if (land.coverOn(ship.sea, land.today) <= ship.strength) {
            unload(ship);
            ship.turnBack(land.today);
            return;
        }
        ship.state = WAITING;
        ship.waited++;
        if (ship.waited >= MOST_WAITING) {
            ship.turnBack(land.today);
        }
    }

    private void unload(Ship ship) {
        Place station = standingStation(ship.station);
        if (station == null || !land.isNearSea(station.first)) {
            return;
        }
        station.drums += ship.drums;
        ship.drums = 0;
        for (int r = WASTE_RANKS - 1; r >= 0; r--) {
            int taken = Math.min(ship.room - ship.waste, Rows.get(station.rows, r));
            Rows.add(station.rows, r, -taken);
            ship.waste += taken;
        }
    }

    private void comeHome(Ship ship) {
        tally(DRUMS_HOME, ship.drums);
        tally(WASTE_HOME, ship.waste);
        ship.drums = 0;
        ship.waste = 0;
        ship.state = AT_HOME;
    }

    private void passSledge(int g) {
        if (sledges.get(g, SLEDGE_GOES) == 0 || sledges.get(g, SLEDGE_DAY) != land.today) {
            return;
        }
        sledges.put(g, SLEDGE_GOES, 0);
        int drums = sledges.get(g, SLEDGE_DRUMS);
        Place goal = standingStation(sledges.get(g, SLEDGE_TO));
        if (goal != null && goal.first == sledges.get(g, SLEDGE_CELL)) {
            goal.drums += drums;
        } else {
            tally(DRUMS_LOST, drums);
        }
    }

    // ---- drills and nests ----

    public boolean sound(int k, int depth, int wrong) {
        Place place = placeOf(k, SITE);
        if (place == null || !between(depth, 1, 5000) || !between(wrong, 0, 1000)) {
            return false;
        }
        return place.addSounding(depth, wrong);
    }

    public int sure(int k) {
        Place place = placeOf(k, SITE);
        return place == null ? NONE : place.sureDepth();
    }

    public int drill(int k, int w) {
        Place place = placeOf(k, SITE);
        Work work = workOf(w);
        if (place == null || work == null || work.kind != DRILLING || work.cell != place.first) {
            return NONE;
        }
        return drills.append(k, w, 0, 0, 0);
    }

    public boolean speed(int part, int n) {
        if (part == NONE && between(n, 0, 1000)) {
            Rows.put(speeds, MARGIN, n);
            return true;
        }
        if (between(part, 0, SPEED_PARTS - 1) && between(n, 1, 200)) {
            Rows.put(speeds, part, n);
            return true;
        }
        return false;
    }

    public boolean birds(int k, int year, int n) {
        Place nest = placeOf(k, NEST);
        if (nest == null || !isYear(year) || !between(n, 0, 100000)) {
            return false;
        }
        Rows.put(nest.rows, year, n);
        return true;
    }

    public int loss(int k, int a, int b, int e, int what) {
        Place nest = placeOf(k, NEST);
        if (nest == null || !isYear(a) || !isYear(b) || a >= b || !between(e, 0, 99) || !between(what, 0, 1)) {
            return NO_DIFFERENCE;
        }
        int first = Rows.get(nest.rows, a);
        int second = Rows.get(nest.rows, b);
        if (first == NONE || second == NONE) {
            return NO_DIFFERENCE;
        }
        int wrong = (first * e + 99) / 100 + (second * e + 99) / 100;
        return first - second + (what == 0 ? -wrong : wrong);
    }

    public int noise(int k, int year) {
        Place nest = placeOf(k, NEST);
        return nest == null || !isYear(year) ? NONE : Rows.get(nest.noises, year);
    }

    // ---- catches ----

    public int caught(int s, int kind, int sea, int tonnes, int day) {
        if (shipOf(s) == null || !between(kind, 0, 3) || !isSea(sea) || !between(tonnes, 1, 1000000)) {
            return NONE;
        }
        if (!between(day, 0, land.today)) {
            return NONE;
        }
        return catches.append(s, kind, sea, tonnes, day);
    }

    public int over() {
        int best = NONE;
        for (int c = 0; c < catches.size; c++) {
            boolean isEarlier = best == NONE || catches.get(c, CATCH_DAY) < catches.get(best, CATCH_DAY);
            if (isEarlier && isOver(c)) {
                best = c;
            }
        }
        return best;
    }

    private boolean isOver(int c) {
        Ship ship = shipOf(catches.get(c, CATCH_SHIP));
        Party party = ship == null ? null : partyOf(ship.owner);
        if (party == null) {
            return false;
        }
        law.weigh(ship.owner, party, catches.get(c, CATCH_DAY));
        int limit = law.numberOf('k', catches.get(c, CATCH_KIND), catches.get(c, CATCH_SEA));
        return limit != NONE && tonnesUpTo(c) > limit;
    }

    private int tonnesUpTo(int c) {
        int day = catches.get(c, CATCH_DAY);
        int tonnes = 0;
        for (int i = 0; i < catches.size; i++) {
            int other = catches.get(i, CATCH_DAY);
            boolean isBefore = other < day || other == day && i <= c;
            if (isBefore && other / YEAR_DAYS == day / YEAR_DAYS
                    && catches.get(i, CATCH_KIND) == catches.get(c, CATCH_KIND)
                    && catches.get(i, CATCH_SEA) == catches.get(c, CATCH_SEA)) {
                tonnes += catches.get(i, CATCH_TONNES);
            }
        }
        return tonnes;
    }

    public int doubt(int what) {
        if (!between(what, 0, 1)) {
            return NONE;
        }
        for (int i = 0; i < catches.size; i++) {
            for (int j = i + 1; j < catches.size; j++) {
                if (isDoubtful(i, j)) {
                    return what == 0 ? i : j;
                }
            }
        }
        return NONE;
    }

    private boolean isDoubtful(int i, int j) {
        int seaOfOne = catches.get(i, CATCH_SEA);
        int seaOfOther = catches.get(j, CATCH_SEA);
        if (catches.get(i, CATCH_SHIP) != catches.get(j, CATCH_SHIP) || seaOfOne == seaOfOther) {
            return false;
        }
        int apart = Math.abs(catches.get(i, CATCH_DAY) - catches.get(j, CATCH_DAY));
        return apart < (Rows.get(land.seaDays, seaOfOne) + Rows.get(land.seaDays, seaOfOther)) / 4;
    }

    // ---- words ----

    public int word(int worth) {
        return between(worth, 0, 1000) ? words.append(worth, 0, 0, 0, 0) : NONE;
    }

    public boolean asks(int p, int w, int other) {
        Party party = partyOf(p);
        if (party == null || !words.has(w) || other == w || other != NONE && !words.has(other)) {
            return false;
        }
        int bit = 1 << w;
        if (other == NONE) {
            boolean isNew = (party.barred & bit) == 0;
            party.barred |= bit;
            return isNew;
        }
        int wanted = Rows.get(party.wanted, other);
        Rows.put(party.wanted, other, wanted | bit);
        return (wanted & bit) == 0;
    }

    public int blocks(int set) {
        return between(set, 0, (1 << words.size) - 1) ? blockers(set) : NONE;
    }

    public int best() {
        int deciding = decidingOn(land.today);
        int best = 0;
        int bestWorth = 0;
        for (int set = 1; set < 1 << words.size; set++) {
            int worth = worthOf(set);
            boolean isFewer = worth == bestWorth && Integer.bitCount(set) < Integer.bitCount(best);
            if ((worth > bestWorth || isFewer) && (blockers(set) & deciding) == 0) {
                best = set;
                bestWorth = worth;
            }
        }
        return best;
    }

    private int blockers(int set) {
        int bits = 0;
        for (int p = 0; p < partyCount; p++) {
            Party party = partyOf(p);
            if (party != null && party.blocksWords(set)) {
                bits |= 1 << p;
            }
        }
        return bits;
    }

    private int worthOf(int set) {
        int worth = 0;
        for (int w = 0; w < words.size; w++) {
            if ((set >> w & 1) != 0) {
                worth += words.get(w, 0);
            }
        }
        return worth;
    }

    // ---- the season ----

    public int stop(int k, int need) {
        if (standingStation(k) == null || !between(need, 0, 10000) || season.hasStation(k)) {
            return NONE;
        }
        season.forget();
        return season.stops.append(k, need, 0, 0, 0);
    }

    public boolean open(int i, int x, int from, int to) {
        if (!between(i, 0, ICES - 1) || !season.stops.has(x) || !areYearDays(from, to)) {
            return false;
        }
        season.forget();
        Rows.put(season.opens, i * MOST_STOPS + x, from);
        Rows.put(season.closes, i * MOST_STOPS + x, to);
        return true;
    }

    public int plan(int s, int sea, int from) {
        Ship ship = shipOf(s);
        if (ship == null || !isSea(sea) || !between(from, 0, YEAR_DAYS - 1)) {
            return NONE;
        }
        if (season.stops.size == 0 || season.needs() > ship.room) {
            return NONE;
        }
        int start = from + Rows.get(land.seaDays, sea);
        if (season.start != start) {
            measureLegs();
            season.seek(start);
        }
        return season.end;
    }

    public int planned(int s, int sea, int from, int i) {
        if (plan(s, sea, from) == NONE || !season.stops.has(i)) {
            return NONE;
        }
        return Rows.get(season.best, i);
    }

    private void measureLegs() {
        for (int x = 0; x < season.stops.size; x++) {
            for (int y = 0; y < season.stops.size; y++) {
                Place one = placeOf(season.stops.get(x, STOP_STATION), STATION);
                Place other = placeOf(season.stops.get(y, STOP_STATION), STATION);
                if (one != null && other != null) {
                    Rows.put(season.legs, x * MOST_STOPS + y, 2 * land.far(one.first, other.first));
                }
            }
        }
    }

    // ---- what was known when ----

    public boolean report(int k, int day, int n, boolean is) {
        if (placeOf(k, STATION) == null || !between(day, 0, land.today)) {
            return false;
        }
        if (is && !between(n, -1000, 1000000)) {
            return false;
        }
        return reports.append(k, day, n, is ? 1 : 0, land.today) != NONE;
    }

    public int known(int k, int d, int t) {
        if (placeOf(k, STATION) == null || !isDay(d) || !isDay(t)) {
            return NOTHING_KNOWN;
        }
        int latest = NONE;
        int before = NONE;
        for (int r = 0; r < reports.size; r++) {
            if (reports.get(r, REPORT_STATION) != k || reports.get(r, REPORT_TOLD) > t) {
                continue;
            }
            int day = reports.get(r, REPORT_DAY);
            boolean isNumber = reports.get(r, REPORT_IS) == 1;
            if (day == d) {
                latest = isNumber ? r : NONE;
            } else if (day < d && isNumber && (before == NONE || day >= reports.get(before, REPORT_DAY))) {
                before = r;
            }
        }
        int told = latest != NONE ? latest : before;
        return told == NONE ? NOTHING_KNOWN : reports.get(told, REPORT_NUMBER);
    }

    public int check(int n) {
        if (n < 0 || n > tape.size / 8) {
            return REFUSED;
        }
        int place = firstWrong(2 * n);
        tape.size = 0;
        return place;
    }

    private int firstWrong(int numbers) {
        int place = 0;
        for (int k = 0; k < placeCount; k++) {
            Place station = standingStation(k);
            if (station == null) {
                continue;
            }
            if (place >= numbers || fedNumber(place) != k) {
                return place;
            }
            if (fedNumber(place + 1) != station.drums + station.hidden) {
                return place + 1;
            }
            place += 2;
        }
        return place < numbers ? place : NONE;
    }

    // ---- how all stands ----

    public int look(int k, int what) {
        Place place = anyPlace(k);
        if (place == null) {
            return NONE;
        }
        switch (what) {
            case 0:
                return place.kind;
            case 1:
                return place.owner;
            case 2:
                return place.first;
            case 3:
                return place.last;
            case 4:
                return place.rank;
            case 5:
                return place.lost ? 1 : 0;
            default:
                return place.kind == STATION ? lookAtStation(place, what) : NONE;
        }
    }

    private int lookAtStation(Place station, int what) {
        switch (what) {
            case 6:
                return station.people;
            case 7:
                return station.drums;
            case 8:
                return station.hidden;
            case 9:
                return station.cold;
            default:
                return between(what, 10, 13) ? Rows.get(station.rows, what - 10) : NONE;
        }
    }

    public int at(int s, int what) {
        Ship ship = shipOf(s);
        if (ship == null) {
            return NONE;
        }
        switch (what) {
            case 0:
                return ship.state;
            case 1:
                return ship.drums;
            case 2:
                return ship.waste;
            case 3:
                return ship.state == ON_WAY || ship.state == RETURNING ? ship.due : NONE;
            case 4:
                return ship.waited;
            default:
                return NONE;
        }
    }

    public int about(int w, int what) {
        Work work = workOf(w);
        if (work == null) {
            return NONE;
        }
        switch (what) {
            case 0:
                return work.kind;
            case 1:
                return work.owner;
            case 2:
                return work.cell;
            case 3:
                return work.from;
            case 4:
                return work.to;
            case 5:
                return work.daysDone;
            case 6:
                return work.daysHeld;
            case 7:
                return work.notice;
            case 8:
                return work.leave;
            case 9:
                return work.study;
            case 10:
                return work.harm;
            default:
                return NONE;
        }
    }

    public long sum(int what) {
        if (what >= 0 && what < sums.length) {
            return sums[what];
        }
        if (between(what, 10, 10 + MOST_PARTIES - 1)) {
            Party party = partyOf(what - 10);
            return party == null ? NONE : party.science;
        }
        return what >= 20 && drills.has(what - 20) ? drills.get(what - 20, DRILL_DEPTH) : NONE;
    }

    public int count(int what) {
        switch (what) {
            case 0:
                return land.today;
            case 1:
                return land.columns;
            case 2:
                return land.rows;
            case 3:
                return partyCount;
            case 4:
                return placeCount;
            case 5:
                return law.textCount;
            case 6:
                return law.readings.size;
            case 7:
                return workCount;
            case 8:
                return shipCount;
            case 9:
                return sledgesOnWay();
            case 10:
                return visits.size;
            case 11:
                return drills.size;
            case 12:
                return catches.size;
            case 13:
                return words.size;
            case 14:
                return season.stops.size;
            case 15:
                return reports.size;
            case 16:
                return tape.size;
            default:
                return decidesFrom(what);
        }
    }

    private int decidesFrom(int what) {
        Party party = between(what, 20, 20 + MOST_PARTIES - 1) ? partyOf(what - 20) : null;
        return party == null ? NONE : party.decidesFrom;
    }

    private int sledgesOnWay() {
        int going = 0;
        for (int g = 0; g < sledges.size; g++) {
            going += sledges.get(g, SLEDGE_GOES);
        }
        return going;
    }

    // ---- what is there ----

    private Party partyOf(int p) {
        return p >= 0 && p < partyCount && p < parties.length ? parties[p] : null;
    }

    private Place anyPlace(int k) {
        return k >= 0 && k < placeCount && k < places.length ? places[k] : null;
    }

    private Place placeOf(int k, int kind) {
        Place place = anyPlace(k);
        return place != null && place.kind == kind ? place : null;
    }

    private Place standingStation(int k) {
        Place station = placeOf(k, STATION);
        return station != null && !station.lost ? station : null;
    }

    private Work workOf(int w) {
        return w >= 0 && w < workCount && w < works.length ? works[w] : null;
    }

    private Ship shipOf(int s) {
        return s >= 0 && s < shipCount && s < ships.length ? ships[s] : null;
    }

    private void tally(int what, int n) {
        if (what >= 0 && what < sums.length) {
            sums[what] += n;
        }
    }

    private static boolean between(int n, int least, int most) {
        return n >= least && n <= most;
    }

    private static boolean isDay(int day) {
        return between(day, 0, DAYS - 1);
    }

    private static boolean areDays(int from, int to) {
        return from >= 0 && from <= to && to < DAYS;
    }

    private static boolean areYearDays(int from, int to) {
        return from >= 0 && from <= to && to < YEAR_DAYS;
    }

    private static boolean isYear(int year) {
        return between(year, 0, YEARS - 1);
    }

    private static boolean isSea(int sea) {
        return between(sea, 0, SEAS - 1);
    }

    // ---- what the land is made of ----

    /** Rows of numbers: what is outside of them is 0 and stays so. */
    private static final class Rows {

        static int get(int[] row, int i) {
            return row != null && i >= 0 && i < row.length ? row[i] : 0;
        }

        static void put(int[] row, int i, int n) {
            if (row != null && i >= 0 && i < row.length) {
                row[i] = n;
            }
        }

        static void add(int[] row, int i, int n) {
            put(row, i, get(row, i) + n);
        }

        static void fill(int[] row, int n) {
            if (row == null) {
                return;
            }
            for (int i = 0; i < row.length; i++) {
                row[i] = n;
            }
        }
    }

    /** So many rows at most of a few numbers each, by the order in which they came. */
    private static final class Table {
        final int width;
        final int most;
        final int[] cells;
        int size = 0;

        Table(int width, int most) {
            this.width = width;
            this.most = most;
            cells = new int[Math.max(0, width * most)];
        }

        boolean isFull() {
            return size >= most;
        }

        boolean has(int row) {
            return row >= 0 && row < size;
        }

        int get(int row, int column) {
            int i = row * width + column;
            boolean isThere = row >= 0 && row < size && column >= 0 && column < width;
            return isThere && i >= 0 && i < cells.length ? cells[i] : 0;
        }

        void put(int row, int column, int n) {
            int i = row * width + column;
            boolean isThere = row >= 0 && row < size && column >= 0 && column < width;
            if (isThere && i >= 0 && i < cells.length) {
                cells[i] = n;
            }
        }

        /** A new row of as many of the numbers as the table is wide: its place, or NONE if there is no room. */
        int append(int a, int b, int c, int d, int e) {
            if (isFull()) {
                return NONE;
            }
            int row = size;
            size++;
            put(row, 0, a);
            put(row, 1, b);
            put(row, 2, c);
            put(row, 3, d);
            put(row, 4, e);
            return row;
        }
    }

    /** The ice, its cells, its seas and its days. */
    private static final class Land {
        private static final int[] ROW_STEPS = {-1, -1, 0, 1, 1, 1, 0, -1};
        private static final int[] COLUMN_STEPS = {0, 1, 1, 1, 0, -1, -1, -1};
        private static final int WAYS = 8;

        int today = 0;
        int darkFrom = 120;
        int darkTo = 239;
        int columns = 8;
        int rows = 8;
        final int[] heights = new int[MOST_CELLS];
        final int[] grounds = new int[MOST_CELLS];
        final int[] ways = new int[MOST_CELLS];
        final int[] flowDays = new int[MOST_CELLS];
        final int[] covers = new int[SEAS * MONTHS];
        final int[] seaDays = new int[SEAS];
        // How many days a cell is away in the search for a way, and whether that stands.
        private final int[] reach = new int[MOST_CELLS];
        private final int[] reached = new int[MOST_CELLS];

        Land() {
            Rows.fill(seaDays, 10);
            Rows.fill(ways, NONE);
        }

        void lay(int w, int h) {
            columns = w;
            rows = h;
            Rows.fill(heights, 0);
            Rows.fill(grounds, ICE);
            Rows.fill(ways, NONE);
            Rows.fill(flowDays, 0);
        }

        boolean isCell(int c) {
            return c >= 0 && c < columns * rows;
        }

        boolean isFirm(int c) {
            int ground = Rows.get(grounds, c);
            return isCell(c) && (ground == ICE || ground == ROCK);
        }

        private int rowOf(int c) {
            return columns > 0 ? c / columns : 0;
        }

        private int columnOf(int c) {
            return columns > 0 ? c % columns : 0;
        }

        int far(int a, int b) {
            return Math.max(Math.abs(rowOf(a) - rowOf(b)), Math.abs(columnOf(a) - columnOf(b)));
        }

        boolean isRectangle(int a, int b) {
            return isCell(a) && isCell(b) && rowOf(a) <= rowOf(b) && columnOf(a) <= columnOf(b);
        }

        boolean isWithin(int c, int a, int b) {
            return isRectangle(a, c) && isRectangle(c, b);
        }

        /** The cell that is one step its way from another one, or NONE outside the ice. */
        int beside(int c, int way) {
            if (!isCell(c) || way < 0 || way >= WAYS) {
                return NONE;
            }
            int row = rowOf(c) + Rows.get(ROW_STEPS, way);
            int column = columnOf(c) + Rows.get(COLUMN_STEPS, way);
            boolean isOutside = row < 0 || row >= rows || column < 0 || column >= columns;
            return isOutside ? NONE : row * columns + column;
        }

        boolean isNearSea(int c) {
            if (isCell(c) && Rows.get(grounds, c) == SEA) {
                return true;
            }
            for (int way = 0; way < WAYS; way++) {
                int next = beside(c, way);
                if (next != NONE && Rows.get(grounds, next) == SEA) {
                    return true;
                }
            }
            return false;
        }

        boolean isDark(int day) {
            int dayOfYear = day % YEAR_DAYS;
            return dayOfYear >= darkFrom && dayOfYear <= darkTo;
        }

        int coverOn(int sea, int day) {
            return Rows.get(covers, sea * MONTHS + day % YEAR_DAYS / MONTH_DAYS);
        }

        /** Whether the ice takes along what has been in a cell for so many days. */
        boolean carries(int c, int days) {
            boolean flows = Rows.get(grounds, c) == ICE && Rows.get(ways, c) != NONE;
            return flows && days >= Rows.get(flowDays, c);
        }

        /** The days of the shortest way for sledges, or NONE. */
        int leastDays(int from, int to) {
            Rows.fill(reach, NONE);
            Rows.fill(reached, 0);
            Rows.put(reach, from, 0);
            for (int i = 0; i < MOST_CELLS; i++) {
                int c = nearestOpen();
                if (c == NONE || c == to) {
                    break;
                }
                Rows.put(reached, c, 1);
                for (int way = 0; way < WAYS; way++) {
                    step(c, beside(c, way));
                }
            }
            return isCell(to) ? Rows.get(reach, to) : NONE;
        }

        private int nearestOpen() {
            int best = NONE;
            for (int c = 0; c < columns * rows; c++) {
                int days = Rows.get(reach, c);
                boolean isOpen = days != NONE && Rows.get(reached, c) == 0;
                if (isOpen && (best == NONE || days < Rows.get(reach, best))) {
                    best = c;
                }
            }
            return best;
        }

        private void step(int from, int to) {
            if (!isFirm(to)) {
                return;
            }
            int climb = Math.abs(Rows.get(heights, from) - Rows.get(heights, to));
            int days = Rows.get(reach, from) + 1 + climb;
            if (Rows.get(reach, to) == NONE || days < Rows.get(reach, to)) {
                Rows.put(reach, to, days);
            }
        }
    }

    private static final class Party {
        int decidesFrom;
        int science = 0;
        int barred = 0;
        final int[] yesDays = new int[MOST_TEXTS];
        // By the word that must be there: the words that are wanted then, as bits.
        final int[] wanted = new int[MOST_WORDS];

        Party(int decidesFrom) {
            this.decidesFrom = decidesFrom;
            Rows.fill(yesDays, NONE);
        }

        boolean decidesOn(int day) {
            return decidesFrom != NONE && decidesFrom <= day;
        }

        boolean blocksWords(int set) {
            if ((barred & set) != 0) {
                return true;
            }
            for (int w = 0; w < MOST_WORDS; w++) {
                if ((set >> w & 1) != 0 && (Rows.get(wanted, w) & ~set) != 0) {
                    return true;
                }
            }
            return false;
        }
    }

    /** A claim, station, field, reserve, site or nest. */
    private static final class Place {
        final int kind;
        final int owner;
        int first;
        final int last;
        // A claim's title, a reserve's rank, a field's station.
        int rank;
        boolean lost = false;
        int people = 0;
        int drums = 0;
        int hidden = 0;
        int cold = 0;
        int since = 0;
        int toldPeople = 0;
        int toldDrums = 0;
        // A station's waste by ranks, a nest's counts by years.
        final int[] rows;
        final int[] noises;
        private final Table soundings;

        Place(int kind, int owner, int first, int last, int rank) {
            this.kind = kind;
            this.owner = owner;
            this.first = first;
            this.last = last;
            this.rank = rank;
            rows = kind == STATION ? new int[WASTE_RANKS] : kind == NEST ? new int[YEARS] : null;
            noises = kind == NEST ? new int[YEARS] : null;
            soundings = kind == SITE ? new Table(2, 8) : null;
            if (kind == NEST) {
                Rows.fill(rows, NONE);
            }
        }

        boolean addSounding(int depth, int wrong) {
            return soundings != null && soundings.append(depth - wrong, depth + wrong, 0, 0, 0) != NONE;
        }

        /** How deep nothing is touched for sure, by the soundings. */
        int sureDepth() {
            if (soundings == null || soundings.size == 0) {
                return 0;
            }
            int leastLow = soundings.get(0, 0);
            int greatestLow = leastLow;
            int leastHigh = soundings.get(0, 1);
            for (int i = 1; i < soundings.size; i++) {
                leastLow = Math.min(leastLow, soundings.get(i, 0));
                greatestLow = Math.max(greatestLow, soundings.get(i, 0));
                leastHigh = Math.min(leastHigh, soundings.get(i, 1));
            }
            return Math.max(0, greatestLow <= leastHigh ? greatestLow : leastLow);
        }
    }

    private static final class Work {
        final int kind;
        final int owner;
        final int cell;
        final int from;
        final int to;
        int people = 0;
        int noise = 0;
        int daysDone = 0;
        int daysHeld = 0;
        int notice = NONE;
        int leave = NONE;
        int study = NONE;
        int harm = NONE;
        // The parties that say yes and no to it, as bits.
        int yeses = 0;
        int noes = 0;

        Work(int kind, int owner, int cell, int from, int to) {
            this.kind = kind;
            this.owner = owner;
            this.cell = cell;
            this.from = from;
            this.to = to;
        }
    }

    private static final class Ship {
        final int owner;
        final int room;
        final int strength;
        int state = AT_HOME;
        int sea = 0;
        int station = NONE;
        int drums = 0;
        int waste = 0;
        int due = NONE;
        int waited = 0;
        private int days = 0;

        Ship(int owner, int room, int strength) {
            this.owner = owner;
            this.room = room;
            this.strength = strength;
        }

        void leave(int throughSea, int toStation, int withDrums, int today, int seaDays) {
            state = ON_WAY;
            sea = throughSea;
            station = toStation;
            drums = withDrums;
            days = seaDays;
            due = today + seaDays;
            waited = 0;
        }

        void turnBack(int today) {
            state = RETURNING;
            due = today + days;
        }
    }

    /** The clauses of a text with their written conditions; a reading is one of a single clause. */
    private static final class Text {
        private final int from;
        private final int to;
        final Table clauses;
        final int[] steps;
        int stepCount = 0;

        Text(int from, int to, int bytes, int most) {
            this.from = from;
            this.to = to;
            clauses = new Table(CLAUSE_WIDTH, most);
            steps = new int[Math.max(0, bytes)];
        }

        boolean isInForce(int day) {
            return day >= from && day <= to;
        }

        int letterOf(int j) {
            return clauses.get(j, CLAUSE_LETTER);
        }

        boolean hasCondition(int j) {
            return clauses.has(j) && clauses.get(j, CLAUSE_END) > clauses.get(j, CLAUSE_START);
        }

        int addStep(int kind, int operand) {
            int step = stepCount;
            Rows.put(steps, step, operand << STEP_BITS | kind);
            stepCount++;
            return step;
        }

        /** Lets an earlier step lead to the one that is written next. */
        void lead(int step) {
            if (step != NONE) {
                Rows.put(steps, step, stepCount << STEP_BITS | Rows.get(steps, step) & STEP_MASK);
            }
        }
    }

    /** Reads bytes as a text or a reading and writes its clauses, up to the first fault. */
    private static final class Scribe {
        private final int[] source;
        private final int end;
        private final Text text;
        private int place = 0;
        private int depth = 0;
        int fault = 0;
        private int faultPlace = 0;

        Scribe(int[] source, int end, Text text) {
            this.source = source;
            this.end = end;
            this.text = text;
        }

        int faultAnswer() {
            return -1000 * fault - faultPlace;
        }

        void writeText() {
            for (int j = 0; j <= MOST_CLAUSES && fault == 0; j++) {
                clause();
                if (fault != 0 || place >= end) {
                    return;
                }
                take(';');
            }
        }

        void writeReading() {
            text.clauses.append('(', 0, 0, 0, 0);
            condition();
            if (place < end) {
                refuse(FAULT_SIGN, place);
            }
        }

        private void clause() {
            int letter = next();
            if (!isClauseLetter(letter)) {
                refuse(FAULT_SIGN, place);
                return;
            }
            if (text.clauses.append(letter, 0, 0, 0, 0) == NONE) {
                refuse(FAULT_CLAUSE, place);
                return;
            }
            place++;
            if (letter == 'k') {
                set(CLAUSE_FIRST, digits(3));
                take('.');
                set(CLAUSE_SECOND, digits(SEAS - 1));
                take('=');
            } else if (letter == 'x') {
                set(CLAUSE_FIRST, digits(MOST_TEXTS - 1));
                take('.');
                set(CLAUSE_SECOND, digits(MOST_CLAUSES - 1));
            } else if (letter == 'f' || letter == 'l' || letter == 'n' || letter == 's' || letter == 'c') {
                condition();
            }
            if (letter == 'n' || letter == 's' || letter == 'a' || letter == 'q' || letter == 'k' || letter == 'g') {
                set(CLAUSE_N, digits(MOST_NUMBER));
            }
        }

        private static boolean isClauseLetter(int sign) {
            switch (sign) {
                case 'f':
                case 'l':
                case 'n':
                case 's':
                case 'c':
                case 'z':
                case 'a':
                case 'q':
                case 'k':
                case 'g':
                case 'x':
                    return true;
                default:
                    return false;
            }
        }

        private void condition() {
            set(CLAUSE_START, text.stepCount);
            deepen('(');
            parts();
            depth--;
            take(')');
            set(CLAUSE_END, text.stepCount);
        }

        private void parts() {
            int jump = NONE;
            part();
            for (int i = 0; i < MOST_BYTES && fault == 0 && next() == '|'; i++) {
                place++;
                text.lead(jump);
                jump = text.addStep(OR, 0);
                part();
            }
            text.lead(jump);
        }

        private void part() {
            int jump = NONE;
            piece();
            for (int i = 0; i < MOST_BYTES && fault == 0 && next() == '&'; i++) {
                place++;
                text.lead(jump);
                jump = text.addStep(AND, 0);
                piece();
            }
            text.lead(jump);
        }

        private void piece() {
            if (fault != 0) {
                return;
            }
            int sign = next();
            if (sign == '!') {
                negation();
            } else if (sign == '(') {
                deepen('(');
                parts();
                depth--;
                take(')');
            } else {
                terms();
                int kind = comparison(next());
                place++;
                terms();
                text.addStep(kind, 0);
            }
        }

        private void negation() {
            deepen('!');
            piece();
            depth--;
            text.addStep(NOT, 0);
        }

        private int comparison(int sign) {
            if (sign != '<' && sign != '>' && sign != '=') {
                refuse(FAULT_SIGN, place);
            }
            return sign == '<' ? LESS : sign == '>' ? MORE : SAME;
        }

        private void terms() {
            factors();
            for (int i = 0; i < MOST_BYTES && fault == 0 && (next() == '+' || next() == '-'); i++) {
                int kind = next() == '+' ? PLUS : MINUS;
                place++;
                factors();
                text.addStep(kind, 0);
            }
        }

        private void factors() {
            factor();
            for (int i = 0; i < MOST_BYTES && fault == 0 && isFactorSign(next()); i++) {
                int kind = next() == '*' ? TIMES : next() == '/' ? THROUGH : REST;
                place++;
                factor();
                text.addStep(kind, 0);
            }
        }

        private void factor() {
            if (fault != 0) {
                return;
            }
            int sign = next();
            int letter = sign < 0 ? NONE : LETTERS.indexOf((char) sign);
            if (sign == '[') {
                deepen('[');
                terms();
                depth--;
                take(']');
            } else if (letter >= 0) {
                place++;
                text.addStep(LETTER, letter);
            } else {
                text.addStep(NUMBER, digits(MOST_NUMBER));
            }
        }

        private int digits(int most) {
            int first = place;
            int n = 0;
            for (int i = 0; i <= MOST_DIGITS && fault == 0 && isDigit(next()); i++) {
                if (i == MOST_DIGITS) {
                    refuse(FAULT_DIGIT, place);
                    return 0;
                }
                n = 10 * n + next() - '0';
                place++;
            }
            if (place == first) {
                refuse(FAULT_SIGN, place);
            } else if (n > most) {
                refuse(FAULT_NUMBER, first);
            }
            return n;
        }

        private static boolean isDigit(int sign) {
            return sign >= '0' && sign <= '9';
        }

        private static boolean isFactorSign(int sign) {
            return sign == '*' || sign == '/' || sign == '%';
        }

        /** The sign that is read next; NONE at the end. */
        private int next() {
            boolean isThere = source != null && place >= 0 && place < end && place < source.length;
            return isThere ? source[place] : NONE;
        }

        private void take(int sign) {
            if (next() != sign) {
                refuse(FAULT_SIGN, place);
            } else if (fault == 0) {
                place++;
            }
        }

        private void deepen(int sign) {
            if (next() != sign) {
                refuse(FAULT_SIGN, place);
            } else if (depth >= MOST_DEPTH) {
                refuse(FAULT_DEPTH, place);
            } else {
                place++;
            }
            depth++;
        }

        private void refuse(int what, int where) {
            if (fault == 0) {
                fault = what;
                faultPlace = where;
            }
        }

        private void set(int column, int n) {
            text.clauses.put(text.clauses.size - 1, column, n);
        }
    }

    /** The texts, what of them counts for a party on a day, and what that bars. */
    private static final class Law {
        private static final int STACK = 32;

        private final Text[] texts = new Text[MOST_TEXTS];
        int textCount = 0;
        final Table readings = new Table(3, MOST_READINGS);
        private final Text[] readingTexts = new Text[MOST_READINGS];
        // For the party and the day that were weighed last: by texts, the clauses that count, as bits.
        final int[] counting = new int[MOST_TEXTS];
        private final int[] struck = new int[MOST_TEXTS];
        private int weighedParty = NONE;
        private int weighedDay = NONE;
        final int[] letters = new int[14];
        private final int[] stack = new int[STACK];
        private int height = 0;
        int barText = NONE;
        int barClause = NONE;

        Text textOf(int i) {
            return i >= 0 && i < textCount && i < texts.length ? texts[i] : null;
        }

        int addText(Text text) {
            if (textCount >= texts.length) {
                return NONE;
            }
            texts[textCount] = text;
            forget();
            return textCount++;
        }

        void addReading(int p, int i, int j, Text own) {
            int r = readings.append(p, i, j, 0, 0);
            if (r >= 0 && r < readingTexts.length) {
                readingTexts[r] = own;
            }
        }

        /** What was weighed may no longer stand. */
        void forget() {
            weighedDay = NONE;
        }

        void weigh(int p, Party party, int day) {
            if (weighedParty == p && weighedDay == day) {
                return;
            }
            int binding = 0;
            for (int i = 0; i < textCount; i++) {
                if (binds(i, party, day, binding)) {
                    binding |= 1 << i;
                }
            }
            weighTexts(textCount, binding);
            weighedParty = p;
            weighedDay = day;
        }

        /** The texts of lower numbers that bind are known, as bits. */
        private boolean binds(int i, Party party, int day, int binding) {
            Text text = textOf(i);
            if (text == null || !text.isInForce(day)) {
                return false;
            }
            if (i == 0) {
                return true;
            }
            int yesDay = Rows.get(party.yesDays, i);
            if (yesDay == NONE || yesDay > day) {
                return false;
            }
            weighTexts(i, binding);
            return day - yesDay >= numberOf('g', 0, 0);
        }

        /** What counts of the texts below one, if so many of them bind, as bits. */
        private void weighTexts(int below, int binding) {
            Rows.fill(counting, 0);
            Rows.fill(struck, 0);
            for (int i = below - 1; i >= 0; i--) {
                Text text = textOf(i);
                if (text == null || (binding >> i & 1) == 0) {
                    continue;
                }
                int all = (1 << text.clauses.size) - 1;
                int standing = all & ~Rows.get(struck, i);
                Rows.put(counting, i, standing);
                strike(i, text.clauses, standing);
            }
        }

        /** Those clauses of a text that stand, as bits, strike clauses of texts of lower numbers. */
        private void strike(int i, Table clauses, int standing) {
            for (int j = 0; j < clauses.size; j++) {
                int other = clauses.get(j, CLAUSE_FIRST);
                if ((standing >> j & 1) != 0 && clauses.get(j, CLAUSE_LETTER) == 'x' && other < i) {
                    int bit = 1 << clauses.get(j, CLAUSE_SECOND);
                    Rows.put(struck, other, Rows.get(struck, other) | bit);
                }
            }
        }

        private boolean isCounting(int i, int j) {
            return (Rows.get(counting, i) >> j & 1) != 0;
        }

        /** N of the last clause of a letter that counts, by what was weighed; kind and sea are asked of k alone. */
        int numberOf(int letter, int kind, int sea) {
            for (int i = textCount - 1; i >= 0; i--) {
                Text text = textOf(i);
                if (text == null || Rows.get(counting, i) == 0) {
                    continue;
                }
                for (int j = text.clauses.size - 1; j >= 0; j--) {
                    boolean isOther = letter == 'k' && (text.clauses.get(j, CLAUSE_FIRST) != kind
                            || text.clauses.get(j, CLAUSE_SECOND) != sea);
                    if (text.letterOf(j) == letter && !isOther && isCounting(i, j)) {
                        return text.clauses.get(j, CLAUSE_N);
                    }
                }
            }
            return NONE;
        }

        /** What bars a work, by what was weighed and the letters that were told; 0 if nothing does. */
        int judge(Work work, int day, boolean own, boolean hasConsent) {
            barText = NONE;
            barClause = NONE;
            for (int i = 0; i < textCount; i++) {
                Text text = textOf(i);
                if (text == null || Rows.get(counting, i) == 0) {
                    continue;
                }
                for (int j = 0; j < text.clauses.size; j++) {
                    if (!isCounting(i, j) || !text.hasCondition(j)) {
                        continue;
                    }
                    Text reading = own ? readingOf(work.owner, i, j) : null;
                    int holds = reading == null ? holds(text, j) : holds(reading, 0);
                    int bar = holds == REFUSED ? BAR_REFUSED : holds == 0 ? 0 : bar(text, j, work, day, hasConsent);
                    if (bar != 0) {
                        barText = i;
                        barClause = j;
                        return bar;
                    }
                }
            }
            return 0;
        }

        private Text readingOf(int p, int i, int j) {
            for (int r = readings.size - 1; r >= 0; r--) {
                boolean isIt = readings.get(r, READING_PARTY) == p && readings.get(r, READING_TEXT) == i
                        && readings.get(r, READING_CLAUSE) == j;
                if (isIt && r < readingTexts.length) {
                    return readingTexts[r];
                }
            }
            return null;
        }

        /** How a clause bars a work for which its condition holds. */
        private static int bar(Text text, int j, Work work, int day, boolean hasConsent) {
            int lastDay = work.from - text.clauses.get(j, CLAUSE_N);
            switch (text.letterOf(j)) {
                case 'f':
                    return BAR_FORBIDDEN;
                case 'l':
                    return wasTold(work.leave, day) ? 0 : BAR_LEAVE;
                case 'n':
                    return wasTold(work.notice, lastDay) ? 0 : BAR_NOTICE;
                case 's':
                    return wasTold(work.study, lastDay) ? 0 : BAR_STUDY;
                case 'c':
                    return hasConsent ? 0 : BAR_CONSENT;
                default:
                    return 0;
            }
        }

        private static boolean wasTold(int told, int lastDay) {
            return told != NONE && told <= lastDay;
        }

        /** Whether a clause's condition holds by the letters that were told: 1, 0, or REFUSED. */
        private int holds(Text text, int j) {
            int step = text.clauses.get(j, CLAUSE_START);
            int end = text.clauses.get(j, CLAUSE_END);
            height = 0;
            for (int i = 0; i < MOST_BYTES && step < end; i++) {
                int kind = Rows.get(text.steps, step) & STEP_MASK;
                int operand = Rows.get(text.steps, step) >> STEP_BITS;
                step++;
                if (kind == NUMBER) {
                    push(operand);
                } else if (kind == LETTER) {
                    push(Rows.get(letters, operand));
                } else if (kind == NOT) {
                    push(1 - pop());
                } else if (kind == OR || kind == AND) {
                    int held = pop();
                    if (held == (kind == OR ? 1 : 0)) {
                        push(held);
                        step = operand;
                    }
                } else {
                    int right = pop();
                    int left = pop();
                    if (right == 0 && (kind == THROUGH || kind == REST)) {
                        return REFUSED;
                    }
                    push(reckon(kind, left, right));
                }
            }
            return pop();
        }

        private static int reckon(int kind, int left, int right) {
            switch (kind) {
                case PLUS:
                    return left + right;
                case MINUS:
                    return left - right;
                case TIMES:
                    return left * right;
                case THROUGH:
                    return right == 0 ? 0 : left / right;
                case REST:
                    return right == 0 ? 0 : left % right;
                case LESS:
                    return left < right ? 1 : 0;
                case MORE:
                    return left > right ? 1 : 0;
                default:
                    return left == right ? 1 : 0;
            }
        }

        private void push(int n) {
            Rows.put(stack, height, n);
            height++;
        }

        private int pop() {
            height--;
            return Rows.get(stack, height);
        }
    }

    /** The stops of a season and the best order of them. */
    private static final class Season {
        final Table stops = new Table(2, MOST_STOPS);
        // By ices, then by stops.
        final int[] opens = new int[ICES * MOST_STOPS];
        final int[] closes = new int[ICES * MOST_STOPS];
        // By stops, then by stops.
        final int[] legs = new int[MOST_STOPS * MOST_STOPS];
        // By places in the order that is tried, then by ices.
        private final int[] days = new int[MOST_STOPS * ICES];
        private final int[] order = new int[MOST_STOPS];
        // By sets of stops that are still to come, as bits, then by the stop where the ship is: the least days of travel.
        private final int[] ahead = new int[(1 << MOST_STOPS) * MOST_STOPS];
        final int[] best = new int[MOST_STOPS];
        // The day at the first stop for which best and end stand; NONE: they don't.
        int start = NONE;
        int end = NONE;

        Season() {
            Rows.fill(closes, YEAR_DAYS - 1);
        }

        void forget() {
            start = NONE;
        }

        boolean hasStation(int k) {
            for (int x = 0; x < stops.size; x++) {
                if (stops.get(x, STOP_STATION) == k) {
                    return true;
                }
            }
            return false;
        }

        int needs() {
            int needs = 0;
            for (int x = 0; x < stops.size; x++) {
                needs += stops.get(x, STOP_NEED);
            }
            return needs;
        }

        void seek(int firstDay) {
            start = firstDay;
            end = NONE;
            lookAhead();
            extend(0, 0);
        }

        /** Most orders can't end ahead of the best one: with this that is seen long before their last stop. */
        private void lookAhead() {
            for (int set = 1; set < 1 << stops.size; set++) {
                for (int x = 0; x < stops.size; x++) {
                    Rows.put(ahead, set * MOST_STOPS + x, leastAhead(set, x));
                }
            }
        }

        private int leastAhead(int set, int x) {
            int least = NONE;
            for (int y = 0; y < stops.size; y++) {
                if ((set >> y & 1) == 0) {
                    continue;
                }
                int days = Rows.get(legs, x * MOST_STOPS + y) + Rows.get(ahead, (set & ~(1 << y)) * MOST_STOPS + y);
                least = least == NONE ? days : Math.min(least, days);
            }
            return Math.max(0, least);
        }

        /** Orders are tried from the least row on, so only a lesser end is better. */
        private void extend(int level, int gone) {
            for (int x = 0; x < stops.size; x++) {
                if ((gone >> x & 1) == 0 && comes(level, x, gone | 1 << x)) {
                    Rows.put(order, level, x);
                    goOn(level + 1, gone | 1 << x);
                }
            }
        }

        private void goOn(int level, int gone) {
            if (level < stops.size) {
                extend(level, gone);
            } else {
                keep();
            }
        }

        /** Whether the ship comes to a stop in time in all ices and can still end ahead of the best end. */
        private boolean comes(int level, int x, int gone) {
            int leg = Rows.get(legs, Rows.get(order, level - 1) * MOST_STOPS + x);
            int toCome = ((1 << stops.size) - 1) & ~gone;
            int rest = Rows.get(ahead, toCome * MOST_STOPS + x);
            for (int i = 0; i < ICES; i++) {
                int arrival = level == 0 ? start : Rows.get(days, (level - 1) * ICES + i) + leg;
                int day = Math.max(arrival, Rows.get(opens, i * MOST_STOPS + x));
                if (arrival > Rows.get(closes, i * MOST_STOPS + x) || end != NONE && day + rest >= end) {
                    return false;
                }
                Rows.put(days, level * ICES + i, day);
            }
            return true;
        }

        private void keep() {
            int last = stops.size - 1;
            end = NONE;
            for (int i = 0; i < ICES; i++) {
                end = Math.max(end, Rows.get(days, last * ICES + i));
            }
            for (int x = 0; x < stops.size; x++) {
                Rows.put(best, x, Rows.get(order, x));
            }
        }
    }
}
