import java.lang.reflect.Method;
import java.util.ArrayList;
import java.util.Arrays;
import java.util.Collections;
import java.util.HashMap;
import java.util.List;
import java.util.Map;
import java.util.Random;

/** Runs of random calls, each answered by LikeTales as by PlainTales. Told a number, it does that many runs. */
public final class RandomRunsTest {
    private static final Map<String, Method> CALLS_OF_MADE = methodsOf(LikeTales.class);
    private static final Map<String, Method> CALLS_OF_PLAIN = methodsOf(PlainTales.class);
    private final Random random;
    private final LikeTales made = new LikeTales();
    private final PlainTales plain = new PlainTales();
    private final List<String> told = new ArrayList<>();
    private boolean wrong = false;
    // How the run is shaped.
    private final int kinds, tales, things, ties, sorts;
    private final boolean moments, odd, twins;

    private RandomRunsTest(int seed) {
        random = new Random(seed);
        kinds = 1 + random.nextInt(random.nextBoolean() ? 3 : 16);
        tales = 2 + random.nextInt(random.nextInt(4) == 0 ? 11 : 3);
        things = seed % 40 == 0 ? 6 : 1 + random.nextInt(seed % 5 == 0 ? 5 : 4);
        ties = 1 + random.nextInt(random.nextBoolean() ? 5 : 14);
        sorts = 1 + random.nextInt(random.nextBoolean() ? 2 : 10);
        moments = random.nextBoolean();
        odd = random.nextInt(4) == 0;
        twins = random.nextInt(3) == 0;
    }

    public static void main(String[] args) {
        int runs = args.length > 0 ? Integer.parseInt(args[0]) : 6000;
        int first = args.length > 1 ? Integer.parseInt(args[1]) : 0;
        int bad = 0;
        for (int seed = first; seed < first + runs && bad < 3; seed++) {
            RandomRunsTest run = new RandomRunsTest(seed);
            run.go();
            if (run.wrong) {
                bad++;
                System.out.println("run of seed " + seed + ":");
                for (String line : run.told) {
                    System.out.println("  " + line);
                }
            }
        }
        System.out.println(bad == 0 ? "random runs: all answers are as due" : "random runs: answers are not as due");
        if (bad != 0) {
            System.exit(1);
        }
    }

    private void go() {
        if (random.nextInt(3) != 0) {
            tellKinds();
        }
        same("timed", moments && random.nextBoolean() ? 1 : 0);
        for (int t = 0; t < tales && !wrong; t++) {
            tellTale(t);
        }
        int calls = 10 + random.nextInt(60);
        for (int i = 0; i < calls && !wrong; i++) {
            anyCall();
        }
    }

    private void tellKinds() {
        for (int k = 0; k < 16 && !wrong; k++) {
            if (random.nextInt(2) == 0) {
                int shape = random.nextInt(5);
                same("kind", k, shape < 3 ? 2 : shape == 3 ? 1 : 3, random.nextInt(2));
            }
        }
        int links = random.nextInt(30);
        // Links between few kinds meet in one tale more often.
        int few = random.nextBoolean() ? 16 : Math.min(16, kinds + 2);
        for (int k = 0; k < 15 && !wrong; k++) {
            if (twins && random.nextInt(3) > 0) {
                same("opposite", k, k + 1);
            }
        }
        for (int i = 0; i < links && !wrong; i++) {
            same(random.nextInt(3) == 0 ? "opposite" : "wider", random.nextInt(few), random.nextInt(few));
        }
    }

    private void tellTale(int t) {
        if (t > 0 && random.nextInt(4) < (twins ? 3 : 1)) {
            tellTwin(random.nextInt(t), t);
            return;
        }
        if (t > 0 && random.nextInt(5) == 0) {
            same("copy", random.nextInt(t), t);
        } else {
            int n = random.nextInt(4) == 0 ? random.nextInt(things + 1) : things;
            same("tale", t, n);
            for (int x = 0; x < n && !wrong; x++) {
                same("sort", t, x, random.nextInt(sorts));
            }
        }
        same("label", t, random.nextInt(3));
        int count = random.nextInt(ties + 1);
        for (int i = 0; i < count && !wrong; i++) {
            tellTie(t);
        }
    }

    /** Tells tale t as tale u is, with the things named otherwise, the ties in another order, and a few faults. */
    private void tellTwin(int u, int t) {
        PlainTales.Tale first = plain.tales[u];
        List<Integer> names = shuffled(first.sorts.size());
        boolean faulty = random.nextInt(3) > 0;
        same("tale", t, names.size());
        for (int x = 0; x < names.size() && !wrong; x++) {
            same("sort", t, names.get(x), faulty && random.nextInt(6) == 0 ? random.nextInt(sorts) : first.sorts.get(x));
        }
        same("label", t, first.label);
        int[] numbers = new int[first.ties.size()];
        Arrays.fill(numbers, -1);
        // A tie waits for those at its ends, so each round tells at least the lowest that wait.
        for (int round = 0; round < numbers.length && !wrong; round++) {
            for (int i : shuffled(numbers.length)) {
                if (numbers[i] == -1 && !(faulty && random.nextInt(8) == 0)) {
                    int kind = first.ties.get(i).kind;
                    int told = faulty && random.nextInt(twins ? 2 : 4) == 0 ? kindNextTo(kind) : kind;
                    numbers[i] = tellTwinTie(t, told, first.ties.get(i), names, numbers);
                }
            }
        }
    }

    /** The opposite of a kind, or one that is alike at some level. */
    private int kindNextTo(int kind) {
        if (plain.opposite[kind] != -1 && random.nextBoolean()) {
            return plain.opposite[kind];
        }
        List<Integer> alike = new ArrayList<>();
        for (int k = 0; k < 16; k++) {
            if (plain.alikeAt(kind, k, 2)) {
                alike.add(k);
            }
        }
        return alike.get(random.nextInt(alike.size()));
    }

    /** The number of the tie told, or -1. */
    private int tellTwinTie(int t, int kind, PlainTales.Tie tie, List<Integer> names, int[] numbers) {
        int[] e = {-1, -1, -1};
        for (int p = 0; p < tie.ends.size(); p++) {
            int end = tie.ends.get(p);
            if (end >= 10 && numbers[end - 10] == -1) {
                return -1;
            }
            e[p] = end < 10 ? names.get(end) : 10 + numbers[end - 10];
        }
        if (plain.even[kind] && random.nextBoolean()) {
            int former = e[0];
            e[0] = e[1];
            e[1] = former;
        }
        int number = plain.tales[t].ties.size();
        same("tie", t, kind, e[0], e[1], e[2], random.nextInt(20) == 0 ? -1 : tie.moment);
        return plain.tales[t].ties.size() > number ? number : -1;
    }

    private List<Integer> shuffled(int count) {
        List<Integer> all = new ArrayList<>();
        for (int i = 0; i < count; i++) {
            all.add(i);
        }
        Collections.shuffle(all, random);
        return all;
    }

    private void tellTie(int t) {
        int kind = random.nextInt(kinds);
        int[] e = {-1, -1, -1};
        for (int p = 0; p < plain.ends[kind]; p++) {
            int n = plain.tales[t].ties.size();
            int m = plain.tales[t].sorts.size();
            e[p] = n > 0 && random.nextInt(4) == 0 ? 10 + random.nextInt(n) : m > 0 ? random.nextInt(m) : 0;
        }
        same("tie", t, kind, e[0], e[1], e[2], moments && random.nextInt(3) > 0 ? random.nextInt(10) : -1);
    }

    private int anyTale() {
        return strange(-1, 12) ? random.nextInt(16) - 2 : random.nextInt(tales);
    }

    private boolean strange(int low, int high) {
        return odd && random.nextInt(6) == 0 && low < high;
    }

    private int level() {
        return strange(0, 2) ? random.nextInt(6) - 2 : random.nextInt(3);
    }

    private int kind() {
        return strange(0, 15) ? random.nextInt(20) - 2 : random.nextInt(16);
    }

    private void anyCall() {
        int t = anyTale();
        int u = anyTale();
        switch (random.nextInt(24)) {
            case 0: same("kind", kind(), random.nextInt(5), random.nextInt(2)); break;
            case 1: same("wider", kind(), random.nextInt(18) - 1); break;
            case 2: same("opposite", kind(), kind()); break;
            case 3: same("ofKind", kind(), random.nextInt(7) - 1); same("alike", kind(), kind()); break;
            case 4: same("timed", strange(0, 1) ? random.nextInt(4) - 1 : moments ? random.nextInt(2) : 0); break;
            case 5: tellTale(random.nextInt(tales)); break;
            case 6: same("sort", t, random.nextInt(8) - 1, random.nextInt(12) - 1); break;
            case 7: same("label", t, random.nextInt(12) - 1); break;
            case 8: tellTie(random.nextInt(tales)); break;
            case 9:
                same("tie", t, kind(), random.nextInt(26) - 1, random.nextInt(26) - 1, -1, random.nextInt(12) - 1);
                break;
            case 10: allOfTale(t); break;
            case 11: same("copy", t, u); break;
            case 12:
            case 13: likeness(t, u); break;
            case 14: same("worth", t, u, level(), digits(t, u)); break;
            case 15: same("same", t, u); break;
            case 16: same("giveUp"); same("ofGuess", random.nextInt(5) - 1, random.nextInt(7) - 1); break;
            case 17: same("bound", t, u); break;
            case 18: same("seek", t); same("sought", 0); same("sought", 1); break;
            case 19: same("sought", random.nextInt(4) - 1); break;
            case 20: same("common", t, u, anyTale(), level()); break;
            case 21: same("series", t, u, anyTale(), anyTale()); break;
            case 22: same("leftOut", t, u); break;
            default: if (random.nextInt(3) == 0) same("trial", random.nextInt(22) - 1); break;
        }
    }

    private int digits(int t, int u) {
        if (t < 0 || t > 11 || u < 0 || u > 11 || random.nextInt(4) == 0) {
            return random.nextInt(1000) - 10;
        }
        int number = 0;
        int taken = 0;
        for (int x = 0; x < plain.tales[t].sorts.size(); x++) {
            int y = random.nextInt(7);
            boolean free = y < plain.tales[u].sorts.size() && (taken >> y & 1) == 0;
            taken |= free ? 1 << y : 0;
            number = number * 10 + (free ? y : 9);
        }
        return number;
    }

    private void likeness(int t, int u) {
        int level = level();
        same("like", t, u, level);
        same("likes", t, u, level, -1);
        same("likes", t, u, level, random.nextInt(4));
        for (int x = 0; x < 7 && !wrong; x++) {
            same("partner", x);
        }
        for (int i = 0; i < 14 && !wrong; i++) {
            same("answer", i);
        }
        for (int g = -1; g < 6 && !wrong; g++) {
            same("guess", g);
            for (int k = 0; k < 5 && !wrong; k++) {
                same("ofGuess", g, k);
            }
        }
        same("giveUp");
    }

    private void allOfTale(int t) {
        for (int what = -1; what < 17 && !wrong; what++) {
            same("ofTale", t, what);
        }
        for (int i = 0; i < 15 && !wrong; i++) {
            for (int what = 0; what < 7 && !wrong; what++) {
                same("ofTie", t, i, what);
            }
        }
    }

    private void same(String call, int... v) {
        // The document promises nothing of what later calls answer.
        if (wrong || told.size() >= 512) {
            return;
        }
        int got = answerOf(made, CALLS_OF_MADE.get(call), v);
        int due = answerOf(plain, CALLS_OF_PLAIN.get(call), v);
        StringBuilder line = new StringBuilder(call).append('(');
        for (int i = 0; i < v.length; i++) {
            line.append(i > 0 ? ", " : "").append(v[i]);
        }
        told.add(line.append(") answered ").append(got).append(", due is ").append(due).toString());
        wrong |= got != due;
    }

    private static Map<String, Method> methodsOf(Class<?> c) {
        Map<String, Method> found = new HashMap<>();
        for (Method m : c.getDeclaredMethods()) {
            found.put(m.getName(), m);
        }
        return found;
    }

    private static int answerOf(Object x, Method call, int[] v) {
        Object[] told = new Object[v.length];
        for (int i = 0; i < v.length; i++) {
            boolean isFlag = call.getParameterTypes()[i] == boolean.class;
            told[i] = isFlag ? (Object) (v[i] == 1) : (Object) v[i];
        }
        try {
            return (Integer) call.invoke(x, told);
        } catch (ReflectiveOperationException e) {
            throw new IllegalStateException(call.getName(), e);
        }
    }
}
