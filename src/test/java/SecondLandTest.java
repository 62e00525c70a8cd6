import java.lang.reflect.InvocationTargetException;
import java.lang.reflect.Method;
import java.util.Arrays;
import java.util.HashMap;
import java.util.Map;
import java.util.Random;

/** All promises: the same calls on IceTreaty and on SecondLand, with arguments that stand at their limits often, must answer the same. */
public final class SecondLandTest {

    private static final int RUNS = 1200;
    private static final int CALLS = 300;

    /**
     * Each call with what its arguments are drawn from. lo..hi: the limits of a number (with / ahead of it: where most of them
     * are taken from); P T W S V D X: a number of a party, text, work, ship, visit, word, stop; K: of a place, or of one of a
     * kind; C: of a cell; day: one near today; past: one not behind it; b: yes or no. What is marked with ! is drawn by itself.
     */
    private static final String[] FACE = {"ice 4..12 4..12", "cell !", "dark !", "party b", "claim !", "title K0 0..5/0..999",
        "station P C 0..60/0..500 0..120/0..100000", "field K1 C", "reserve !", "site C b", "feed !", "text !", "yes P T",
        "reading !", "counts T P day", "number 0..3/-1..25 P day", "decides P day", "work !", "tell W 0..1", "study W 0..1000",
        "say P W b", "may W day b", "why W day b 0..1", "whose P C", "ship P 1..40/1..10000 0..100", "cover 0..3 0..2/0..11 0..100",
        "sea 0..3 1..8/1..90", "voyage S 0..3 K1 0..40/0..10000", "sledge K1 K1 1..60/1..500", "people K1 -30..60/-500..500",
        "hide K1 -20..30/-500..500", "declare K1 0..500 0..1000000", "visit P K1", "seen V 0..4", "day", "drill !",
        "sound K4 200..700/1..5000 0..90/0..1000", "sure K4", "speed 0..2/-1..9 1..200/0..1000", "birds K5 0..2/0..9 0..300/0..100000",
        "loss K5 0..1/0..9 1..2/0..9 0..99 0..1", "noise K5 0..1/0..9", "caught S 0..1/0..3 0..1/0..3 1..30/1..1000000 past", "over",
        "doubt 0..1", "word 0..3/0..1000", "asks P D !", "blocks !", "best", "stop K1 0..5/0..10000", "open !", "plan S 0..3 0..30/0..359",
        "planned S 0..3 0..9/0..359 X", "report K1 past -1000..1000000 b", "known K1 day day", "check !", "look K 0..13", "at S 0..4",
        "about W 0..10", "sum 0..29", "count 0..28"};

    /** What the runs are about; the last ones take all calls alike. */
    private static final String[] THEMES = {
        "text text yes yes reading counts number decides work work tell study say may may why day claim title whose reserve site station",
        "station field cell cell people hide declare visit seen day day day day sledge sledge look dark check check",
        "voyage voyage voyage cover sea day day day day day day day day cell at at people look sum",
        "work work drill sound speed site site day day day day sure birds birds loss loss noise sum text",
        "ship caught caught caught caught over over doubt sea text yes number day word asks asks blocks best best",
        "station stop stop open open plan planned planned sea day cell report report known known", ""};

    private final Random random;
    private final IceTreaty land = new IceTreaty();
    private final SecondLand second = new SecondLand();
    private final StringBuilder calls = new StringBuilder();
    private String unlike = "";
    private boolean isTold = true;

    private static final Map<String, Method> FIRST = methodsOf(IceTreaty.class);
    private static final Map<String, Method> SECOND = methodsOf(SecondLand.class);

    private SecondLandTest(int seed) {
        random = new Random(seed);
    }

    public static void main(String[] args) {
        Check.due("calls of the face", FIRST.size(), FACE.length);
        boolean isFirst = true;
        for (int seed = 0; seed < RUNS; seed++) {
            SecondLandTest test = new SecondLandTest(seed);
            test.run(seed);
            if (isFirst && !test.isSame()) {
                System.out.println("run " + seed + " up to there:" + test.calls);
                isFirst = false;
            }
        }
        Check.end("SecondLandTest");
    }

    private static Map<String, Method> methodsOf(Class<?> all) {
        Map<String, Method> methods = new HashMap<>();
        for (String call : FACE) {
            String name = call.split(" ")[0];
            for (Method method : all.getDeclaredMethods()) {
                boolean isOfFace = all == SecondLand.class || java.lang.reflect.Modifier.isPublic(method.getModifiers());
                if (method.getName().equals(name) && isOfFace) {
                    methods.put(name, method);
                }
            }
        }
        return methods;
    }

    private void run(int seed) {
        String[] theme = THEMES[seed % THEMES.length].split(" ");
        begin(seed % THEMES.length);
        for (int i = 0; i < CALLS && isSame(); i++) {
            boolean isAny = theme.length == 1 || random.nextInt(9) == 0;
            step(isAny ? FACE[random.nextInt(FACE.length)] : faceOf(theme[random.nextInt(theme.length)]));
            if (i % 100 == 99) {
                askAll();
            }
        }
        Check.due("run " + seed + ": " + unlike + ": alike", isSame(), true);
    }

    private boolean isSame() {
        return unlike.isEmpty();
    }

    private static String faceOf(String name) {
        for (String call : FACE) {
            if (call.split(" ")[0].equals(name)) {
                return call;
            }
        }
        throw new IllegalStateException(name);
    }

    private void begin(int theme) {
        if (random.nextInt(3) == 0) {
            both("ice", within(4, 7), within(4, 7));
        }
        for (int p = within(0, 5); p > 0; p--) {
            both("party", random.nextInt(4) > 0);
        }
        boolean isOfStations = theme == 1 || theme == 2 || theme == 5;
        for (int c = isOfStations ? cells() : 0; c > 0; c--) {
            step("cell !");
        }
        for (int i = isOfStations || theme == 4 ? 5 : 0; i > 0; i--) {
            step(faceOf("station"));
            step(faceOf("ship"));
        }
        if (theme == 2) {
            coverSeas();
        }
        if (theme == 4) {
            feed("k0.0=30;k0.1=20;k1.0=40;k1.1=9");
            both("text", 0, 3599, 30);
        }
        if (random.nextInt(12) == 0) {
            pass(new int[] {118, 237, 350, 715, 3580}[random.nextInt(5)]);
        }
    }

    /** So much that some ships wait till they turn back. */
    private void coverSeas() {
        for (int sea = 0; sea < 4; sea++) {
            for (int month = 0; month < 12; month++) {
                both("cover", sea, month, within(20 * sea, 100));
            }
        }
    }

    private void pass(int days) {
        for (int d = 0; d < days; d++) {
            both("day");
        }
    }

    // ---- one call ----

    private void both(String name, Object... given) {
        if (!isSame()) {
            return;
        }
        Object answer = answer(FIRST.get(name), land, given);
        Object due = answer(SECOND.get(name), second, given);
        String told = name + Arrays.toString(given) + " answered " + answer;
        if (isTold) {
            calls.append('\n').append(told);
        }
        if (!answer.equals(due)) {
            unlike = told + ", due is " + due;
        }
    }

    private static Object answer(Method method, Object of, Object[] given) {
        try {
            return method.invoke(of, given);
        } catch (InvocationTargetException thrown) {
            return thrown.getCause().toString();
        } catch (IllegalAccessException closed) {
            throw new IllegalStateException(closed);
        }
    }

    private void step(String call) {
        String[] words = call.split(" ");
        if (words[0].equals("day") && random.nextInt(30) == 0) {
            pass(within(20, 70));
        } else if (words.length > 1 && words[1].equals("!")) {
            special(words[0]);
        } else {
            Object[] given = new Object[words.length - 1];
            for (int i = 0; i < given.length; i++) {
                given[i] = drawn(words[i + 1]);
            }
            both(words[0], given);
        }
    }

    private Object drawn(String from) {
        switch (from.charAt(0)) {
            case 'b':
                return random.nextBoolean();
            case 'd':
                return dayNear();
            case 'p':
                return past();
            case 'C':
                return one(cells());
            case 'P':
                return one(land.count(3));
            case 'T':
                return one(land.count(5));
            case 'W':
                return one(land.count(7));
            case 'S':
                return one(land.count(8));
            case 'V':
                return one(land.count(10));
            case 'D':
                return one(land.count(13));
            case 'X':
                return one(land.count(14));
            case 'K':
                return from.length() == 1 ? one(land.count(4)) : placeOf(from.charAt(1) - '0');
            case '!':
                return random.nextInt(3) == 0 ? -1 : one(land.count(13));
            default:
                return number(from);
        }
    }

    /** Of lo..hi, at the limits and just outside of them now and then. */
    private int number(String limits) {
        String[] parts = limits.split("/");
        if (parts.length > 1 && random.nextInt(4) > 0) {
            String[] most = parts[0].split("\\.\\.");
            return within(Integer.parseInt(most[0]), Integer.parseInt(most[1]));
        }
        String[] all = parts[parts.length - 1].split("\\.\\.");
        return edged(Integer.parseInt(all[0]), Integer.parseInt(all[1]));
    }

    private int edged(int least, int most) {
        switch (random.nextInt(16)) {
            case 0:
                return least - 1;
            case 1:
                return most + 1;
            case 2:
            case 3:
                return least;
            case 4:
            case 5:
                return most;
            case 6:
                return random.nextInt(12) > 0 ? within(least, most) : random.nextBoolean() ? Integer.MIN_VALUE : Integer.MAX_VALUE;
            default:
                return within(least, most);
        }
    }

    private int within(int least, int most) {
        return least + random.nextInt(Math.max(1, most - least + 1));
    }

    private int one(int count) {
        return random.nextInt(25) == 0 ? count - random.nextInt(2) * (count + 1) : random.nextInt(Math.max(1, count));
    }

    private int cells() {
        return land.count(1) * land.count(2);
    }

    private int dayNear() {
        return random.nextInt(12) == 0 ? edged(0, 3599) : Math.max(0, land.count(0) + within(-9, 9));
    }

    private int past() {
        return random.nextInt(12) == 0 ? dayNear() : Math.max(0, land.count(0) - random.nextInt(9));
    }

    private int placeOf(int kind) {
        int k = one(land.count(4));
        for (int i = 0; i < 20 && land.look(k, 0) != kind; i++) {
            k = one(land.count(4));
        }
        return k;
    }

    // ---- calls whose arguments hang on one another ----

    private void special(String name) {
        int today = land.count(0);
        int a = one(cells());
        switch (name) {
            case "cell":
                cell();
                break;
            case "dark":
                both(name, edged(0, 30), random.nextInt(3) == 0 ? edged(0, 359) : within(20, 60));
                break;
            case "claim":
                both(name, one(land.count(3)), a, lowerRight(a), number("0..5/0..999"));
                break;
            case "reserve":
                both(name, a, lowerRight(a), edged(1, 9));
                break;
            case "feed":
                both(name, random.nextInt(), random.nextInt(), random.nextInt(), random.nextInt(), random.nextInt());
                break;
            case "text":
                text(random.nextInt(3) > 0 ? 0 : dayNear());
                break;
            case "reading":
                reading();
                break;
            case "work":
                work(random.nextInt(20) == 0 ? edged(0, 3599) : today + within(-1, 6));
                break;
            case "drill":
                drill(placeOf(4));
                break;
            case "blocks":
                both(name, edged(0, (1 << land.count(13)) - 1));
                break;
            case "open":
                int from = number("0..50/0..359");
                both(name, edged(0, 2), one(land.count(14)), from, random.nextInt(9) == 0 ? edged(0, 359) : from + within(-1, 60));
                break;
            default:
                check();
                break;
        }
    }

    private void cell() {
        int way = random.nextInt(4) == 0 ? -1 : edged(0, 7);
        int days = way == -1 && random.nextInt(20) > 0 ? 0 : number("10..20/10..3600");
        int ground = random.nextInt(9) == 0 ? edged(0, 3) : random.nextInt(9) < 7 ? 0 : 2;
        both("cell", random.nextInt(Math.max(1, cells())) + (random.nextInt(40) == 0 ? cells() : 0), number("0..3/0..40"), ground, way, days);
    }

    private int lowerRight(int a) {
        int width = land.count(1);
        return random.nextInt(3) == 0 ? one(cells()) : a + random.nextInt(width) + width * random.nextInt(4);
    }

    private void text(int from) {
        String signs = spoiled(RandomTexts.text(random, random.nextInt(4) == 0 ? 14 : 4, Math.max(1, land.count(5))));
        feed(signs.substring(0, Math.min(signs.length(), 220)));
        int to = random.nextInt(3) > 0 ? 3599 : from + within(-1, 20);
        both("text", from, to, random.nextInt(15) == 0 ? edged(1, 200) : Math.min(signs.length(), 200));
    }

    private void reading() {
        String signs = spoiled("(" + RandomTexts.condition(random, 2) + ")");
        feed(signs.substring(0, Math.min(signs.length(), 120)));
        int n = random.nextInt(15) == 0 ? edged(1, 100) : Math.min(signs.length(), 100);
        both("reading", one(land.count(3)), one(land.count(5)), random.nextInt(5), n);
    }

    private String spoiled(String signs) {
        int place = random.nextInt(signs.length());
        char sign = "fz;()[]!&|<=>+-*/%.0123456789 a~".charAt(random.nextInt(32));
        switch (random.nextInt(16)) {
            case 0:
                return signs.substring(0, place) + sign + signs.substring(place);
            case 1:
                return signs.substring(0, place) + sign + signs.substring(place + 1);
            case 2:
                return signs.substring(0, place + 1);
            case 3:
                String opening = String.valueOf("([!".charAt(random.nextInt(3)));
                return signs.substring(0, place) + opening.repeat(within(4, 9)) + signs.substring(place);
            default:
                return signs;
        }
    }

    /** On an empty tape, mostly. */
    private void feed(String signs) {
        if (random.nextInt(9) > 0) {
            both("check", 0);
        }
        for (int i = 0; i < signs.length(); i += 20) {
            both("feed", word(signs, i), word(signs, i + 4), word(signs, i + 8), word(signs, i + 12), word(signs, i + 16));
        }
    }

    private static int word(String signs, int from) {
        int n = 0;
        for (int i = from; i < from + 4; i++) {
            n = n << 8 | (i < signs.length() ? signs.charAt(i) : 0);
        }
        return n;
    }

    private void work(int from) {
        int site = random.nextInt(3) == 0 ? placeOf(4) : -1;
        int kind = site >= 0 ? 2 : number("0..3/0..9");
        int c = site >= 0 ? land.look(site, 2) : one(cells());
        int to = random.nextInt(20) == 0 ? edged(0, 3599) : from + within(-1, 25);
        both("work", kind, one(land.count(3)), c, from, to, number("0..5/0..500"), number("0..20/0..99"));
    }

    private void drill(int site) {
        int w = one(land.count(7));
        for (int i = 0; i < 20 && land.about(w, 2) != land.look(site, 2); i++) {
            w = one(land.count(7));
        }
        both("drill", site, w);
    }

    /** All stations and their drums, with a fault now and then. */
    private void check() {
        if (random.nextInt(4) == 0) {
            both("check", edged(0, 9));
            return;
        }
        StringBuilder signs = new StringBuilder();
        int twos = 0;
        for (int k = 0; k < land.count(4) && twos < 20; k++) {
            if (land.look(k, 0) == 1 && land.look(k, 5) == 0 && random.nextInt(30) > 0) {
                number(signs, k);
                number(signs, land.look(k, 7) + land.look(k, 8) + (random.nextInt(30) == 0 ? 1 : 0));
                twos++;
            }
        }
        feed(signs.toString());
        both("check", twos + (random.nextInt(5) == 0 ? within(-1, 1) : 0));
    }

    private static void number(StringBuilder signs, int n) {
        for (int shift = 24; shift >= 0; shift -= 8) {
            signs.append((char) (n >>> shift & 255));
        }
    }

    // ---- how all stands ----

    /** What changes nothing is not told with the run. */
    private void askAll() {
        isTold = false;
        for (int what = -1; what < 32; what++) {
            both("sum", what);
            both("count", what);
        }
        for (int k = 0; k < land.count(4); k++) {
            askAll("look", k, 15);
            both("sure", k);
            both("noise", k, land.count(0) / 360);
        }
        for (int s = 0; s < land.count(8); s++) {
            askAll("at", s, 6);
        }
        for (int w = 0; w < land.count(7); w++) {
            askAll("about", w, 12);
            both("may", w, land.count(0), false);
            both("why", w, land.count(0), true, 1);
        }
        for (int v = 0; v < land.count(10); v++) {
            askAll("seen", v, 6);
        }
        for (int i = 0; i < land.count(5); i++) {
            both("counts", i, random.nextInt(Math.max(1, land.count(3))), land.count(0));
        }
        isTold = true;
    }

    private void askAll(String name, int of, int below) {
        for (int what = -1; what < below; what++) {
            both(name, of, what);
        }
    }
}
