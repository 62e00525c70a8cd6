import java.lang.reflect.InvocationTargetException;
import java.lang.reflect.Method;
import java.util.ArrayList;
import java.util.Arrays;
import java.util.Comparator;
import java.util.List;
import java.util.Random;
import java.util.Set;

/** Any calls in any state: nothing is thrown, what is refused changes nothing, the same calls answer the same. */
public final class RandomCallsTest {

    private static final Set<String> ASKING = Set.of("counts", "number", "decides", "may", "why", "whose", "seen", "sure", "loss",
            "noise", "over", "doubt", "blocks", "best", "plan", "planned", "known", "look", "at", "about", "sum", "count");
    private static final int[] EDGES = {Integer.MIN_VALUE, Integer.MAX_VALUE, -1, -2, 0, 1, 3, 4, 7, 8, 9, 10, 11, 12, 19, 20, 40, 50,
        59, 60, 63, 64, 99, 100, 119, 120, 143, 144, 200, 239, 359, 360, 400, 500, 501, 999, 1000, 3599, 3600, 10000, 100000, 1000000};
    private static final String[] TEXTS = {"f(a=7);l(r>0);n(a=1)1;s(a=2)2;c(a=6);z", "a3;q2;k0.0=100;k1.2=40;g3;z", "x0.5;g0;x1.0",
        "f(e/t>9|s*n-o%d=h);c(!(p=0&b=1)|m=1)", "f([[[1]]]=1", "z;", "q0;a0;f(i=1)", "k9", "x0.0;f(y>0&d<40)", "f(1/0=1)"};

    public static void main(String[] args) {
        Method[] calls = face();
        for (int seed = 0; seed < 150; seed++) {
            long first = run(calls, seed, seed % 10 == 0);
            if (seed % 10 == 0) {
                Check.due("the same calls, seed " + seed, run(calls, seed, true), first);
            }
        }
        Check.due("all methods of the face", calls.length, 61);
        Check.end("RandomCallsTest");
    }

    private static Method[] face() {
        List<Method> calls = new ArrayList<>();
        for (Method call : IceTreaty.class.getDeclaredMethods()) {
            if (java.lang.reflect.Modifier.isPublic(call.getModifiers())) {
                calls.add(call);
            }
        }
        calls.sort(Comparator.comparing(Method::getName));
        return calls.toArray(new Method[0]);
    }

    private static long run(Method[] calls, int seed, boolean isWatched) {
        Random random = new Random(seed);
        IceTreaty x = new IceTreaty();
        boolean isWild = seed % 3 == 0;
        if (!isWild) {
            prepare(x, random);
        }
        long hash = 0;
        for (int i = 0; i < 900; i++) {
            Method call = calls[random.nextInt(calls.length)];
            Object[] given = arguments(x, call, random, isWild);
            boolean isAsking = ASKING.contains(call.getName());
            long before = isWatched ? state(x) : 0;
            long answer = answer(x, call, given);
            hash = 31 * hash + answer;
            boolean isRefused = call.getReturnType() == boolean.class ? answer == 0 : answer < 0 && !call.getName().equals("check");
            if (isWatched && (isAsking || isRefused)) {
                Check.due("state behind " + call.getName() + Arrays.toString(given) + " seed " + seed, state(x), before);
            }
        }
        return hash;
    }

    private static void prepare(IceTreaty x, Random random) {
        for (int p = 0; p < 4; p++) {
            x.party(p < 3);
        }
        for (int c = 0; c < 64; c++) {
            x.cell(c, random.nextInt(5), random.nextInt(8) == 0 ? 2 : 0, random.nextInt(8), 10 + random.nextInt(30));
        }
        for (int k = 0; k < 6; k++) {
            x.station(k % 2, random.nextInt(64), random.nextInt(100), random.nextInt(500));
            x.ship(k % 3, 1 + random.nextInt(100), random.nextInt(100));
            x.work(random.nextInt(10), k % 4, random.nextInt(64), 0, 100, random.nextInt(9), random.nextInt(99));
            x.word(random.nextInt(9));
        }
        x.site(9, false);
        x.site(10, true);
        x.claim(0, 0, 18, 4);
        x.reserve(0, 27, 3);
    }

    private static Object[] arguments(IceTreaty x, Method call, Random random, boolean isWild) {
        Class<?>[] types = call.getParameterTypes();
        Object[] given = new Object[types.length];
        for (int i = 0; i < types.length; i++) {
            given[i] = types[i] == boolean.class ? (Object) random.nextBoolean() : (Object) number(random, isWild);
        }
        if (call.getName().equals("text") || call.getName().equals("reading")) {
            String signs = call.getName().equals("text") ? TEXTS[random.nextInt(TEXTS.length)] : "(a=" + random.nextInt(9) + ")";
            x.check(0);
            Check.feed(x, signs);
            if (random.nextInt(4) > 0) {
                given[types.length - 1] = signs.length();
            }
        }
        return given;
    }

    private static int number(Random random, boolean isWild) {
        switch (random.nextInt(isWild ? 6 : 12)) {
            case 0:
                return EDGES[random.nextInt(EDGES.length)];
            case 1:
                return random.nextInt();
            case 2:
            case 3:
                return random.nextInt(64);
            case 4:
                return random.nextInt(400);
            default:
                return random.nextInt(8);
        }
    }

    private static long answer(IceTreaty x, Method call, Object[] given) {
        try {
            Object answer = call.invoke(x, given);
            return answer instanceof Boolean ? (Boolean) answer ? 1 : 0 : ((Number) answer).longValue();
        } catch (InvocationTargetException thrown) {
            thrown.getCause().printStackTrace(System.out);
            Check.due(call.getName() + Arrays.toString(given) + " threw", 1, 0);
            return 0;
        } catch (IllegalAccessException closed) {
            throw new IllegalStateException(closed);
        }
    }

    /** All that the land tells, but for the bytes of the tape. */
    private static long state(IceTreaty x) {
        long hash = 7;
        for (int what = 0; what < 30; what++) {
            hash = 31 * hash + (what == 16 ? 0 : x.count(what));
            hash = 31 * hash + x.sum(what);
        }
        for (int k = 0; k < x.count(4); k++) {
            for (int what = 0; what < 14; what++) {
                hash = 31 * hash + x.look(k, what);
            }
            hash = 31 * hash + x.sure(k) + 3 * x.noise(k, 0) + 5 * x.known(k, 40, 3599) + 7 * x.loss(k, 0, 1, 0, 0);
        }
        for (int w = 0; w < x.count(7); w++) {
            for (int what = 0; what < 11; what++) {
                hash = 31 * hash + x.about(w, what);
            }
            hash = 31 * hash + x.may(w, x.count(0), false) + 9 * x.may(w, x.count(0), true);
        }
        for (int s = 0; s < x.count(8); s++) {
            for (int what = 0; what < 5; what++) {
                hash = 31 * hash + x.at(s, what);
            }
        }
        for (int v = 0; v < x.count(10); v++) {
            hash = 31 * hash + x.seen(v, 3) + 5 * x.seen(v, 4);
        }
        for (int i = 0; i < x.count(5); i++) {
            hash = 31 * hash + x.counts(i, 0, 3) + 5 * x.counts(i, 1, x.count(0));
        }
        return 31 * hash + x.best() + 3 * x.blocks(5) + 5 * x.over() + 7 * x.doubt(1) + 9 * x.plan(0, 0, 0);
    }
}
