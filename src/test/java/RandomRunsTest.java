import java.lang.reflect.InvocationTargetException;
import java.lang.reflect.Method;
import java.util.ArrayList;
import java.util.Arrays;
import java.util.Comparator;
import java.util.List;
import java.util.Map;
import java.util.Random;
import java.util.TreeMap;
import java.util.TreeSet;

/** Runs of 512 calls with arguments by chance: every answer is held against the plain telling of the document. */
public final class RandomRunsTest {
    private static final int CALLS = 512;
    private static final int[] EXTREMES = {Integer.MIN_VALUE, Integer.MAX_VALUE, -32768, -128, -2, 99, 100, 101, 1000, 70000};

    private final Random chance;
    private final List<Method> calls = new ArrayList<>();
    private final Map<String, TreeSet<Long>> seen = new TreeMap<>();
    private BreatheOut tested;
    private PlainCave plain;
    private int made;
    private int wrong = 0;
    private final List<String> told = new ArrayList<>();

    private RandomRunsTest(long seed) {
        chance = new Random(seed);
        for (Method m : BreatheOut.class.getDeclaredMethods()) {
            if (java.lang.reflect.Modifier.isPublic(m.getModifiers())) calls.add(m);
        }
        calls.sort(Comparator.comparing(Method::getName));
    }

    public static void main(String[] args) throws Exception {
        int runs = args.length > 0 ? Integer.parseInt(args[0]) : 1500;
        RandomRunsTest test = new RandomRunsTest(args.length > 1 ? Long.parseLong(args[1]) : 20261118L);
        for (int run = 0; run < runs && test.wrong == 0; run++) test.run();
        test.everyCallAnswersSeveralThings();
        System.out.println(test.wrong == 0 ? "all random runs agree" : test.wrong + " answers differ");
        if (test.wrong != 0) System.exit(1);
    }

    private void run() throws Exception {
        tested = new BreatheOut();
        plain = new PlainCave();
        made = 0;
        told.clear();
        int like = chance.nextInt(12);
        for (int i = 0; i < 101 && like == 0; i++) call("waits", 99);
        for (int i = 0; i < 14 && like == 1; i++) {
            call("keep", 0, 1, chance.nextInt(8), chance.nextInt(10));
            call("lays", 0, 20 + chance.nextInt(10));
        }
        while (made < CALLS - 110 && wrong == 0) {
            int kind = chance.nextInt(100);
            if (told.size() < 30 || kind < 3) text();
            else if (kind < 8) rockOrMinutes();
            else if (kind < 12) deeds();
            else any();
        }
    }

    private void any() throws Exception {
        Method m = calls.get(chance.nextInt(calls.size()));
        // Deaf calls that change the passage away are asked less often, so that caves last.
        if (m.getName().equals("shorter") && chance.nextInt(4) != 0) return;
        Integer[] args = new Integer[m.getParameterCount()];
        for (int i = 0; i < args.length; i++) args[i] = number();
        if (m.getName().equals("makes") && chance.nextInt(2) == 0) args = new Integer[] {chance.nextInt(6), 2, 16 + chance.nextInt(14)};
        if (m.getName().equals("lays") && chance.nextInt(2) == 0) args[1] = 16 + chance.nextInt(12);
        if (m.getName().equals("waits") && chance.nextInt(2) == 0) args[0] = chance.nextInt(100);
        if (m.getName().equals("set") && chance.nextInt(2) == 0) args = new Integer[] {2, chance.nextInt(1000)};
        if (m.getName().equals("keep") && chance.nextInt(2) == 0) args = new Integer[] {chance.nextInt(8), 1, chance.nextInt(8), chance.nextInt(10)};
        if (m.getName().equals("parties") && chance.nextInt(2) == 0) args = new Integer[] {1 + chance.nextInt(20), chance.nextInt(), chance.nextInt(2)};
        if (m.getName().equals("way") && chance.nextInt(2) == 0) args = new Integer[] {body(), chance.nextInt(2), chance.nextInt(3)};
        if (m.getName().equals("panic") && chance.nextInt(2) == 0) args[0] = chance.nextInt(2);
        if (m.getName().equals("floods") && chance.nextInt(2) == 0) args = new Integer[] {body(), yard()};
        call(m.getName(), args);
    }

    private void deeds() throws Exception {
        int b = body();
        int y = yard();
        int n = 1 + chance.nextInt(6);
        if (chance.nextBoolean()) call("set", 1, 1 + chance.nextInt(12));
        for (int i = -1; i < n; i++) call("rescue", b, y, n, i);
    }

    private int body() {
        return chance.nextInt(plain.w.bodies.size() + 1);
    }

    private int yard() {
        return chance.nextInt(plain.w.yards.size() + 1);
    }

    private int number() {
        int kind = chance.nextInt(20);
        if (kind == 0) return EXTREMES[chance.nextInt(EXTREMES.length)];
        if (kind == 1) return -1;
        if (kind == 2) return chance.nextInt(62);
        return kind < 12 ? chance.nextInt(4) : chance.nextInt(10);
    }

    private void rockOrMinutes() throws Exception {
        int d = chance.nextInt(8);
        int sort = chance.nextInt(3);
        int n = chance.nextInt(8);
        boolean minutes = chance.nextBoolean();
        int least = sort == 0 ? -128 : sort == 1 ? -32768 : Integer.MIN_VALUE;
        call("row", d, sort, n);
        List<Integer> times = plain.w.there(plain.w.order, plain.w.clock).times;
        int b = chance.nextInt(6);
        for (int i = 0; i < n; i++) {
            int v = chance.nextInt(3);
            if (minutes && i < times.size() && chance.nextInt(8) != 0) v = times.get(i) - plain.w.clock;
            if (!minutes && chance.nextInt(8) != 0) v = Math.max(0, plain.fits(b, i));
            if (chance.nextInt(4) == 0) v = least;
            call("put", d, i, v);
        }
        if (minutes) {
            call("judge", d);
        } else {
            call("rock", b, d, 0);
            call("rock", b, d, 1);
            call("forged", b, d);
        }
    }

    private void text() throws Exception {
        StringBuilder s = new StringBuilder();
        int statements = 1 + chance.nextInt(14);
        for (int k = 0; k < statements; k++) {
            String next = statement();
            if (s.length() + next.length() > 100) break;
            s.append(next);
        }
        if (chance.nextInt(8) == 0) s.setCharAt(chance.nextInt(s.length()), (char) chance.nextInt(128));
        if (chance.nextInt(12) == 0) s.setLength(chance.nextInt(s.length()));
        int d = chance.nextInt(8);
        call("row", d, 0, s.length());
        for (int i = 0; i < s.length(); i++) call("put", d, i, (int) s.charAt(i));
        call("cave", d);
    }

    private String statement() {
        boolean wild = chance.nextInt(24) == 0;
        switch (chance.nextInt(12)) {
            case 0: case 1: case 2: case 3:
                return "y" + chance.nextInt(wild ? 10 : 8) + chance.nextInt(10) + two(wild ? chance.nextInt(100) : 17 + chance.nextInt(11)) + ";";
            case 4: case 5: case 6:
                return "b" + two(wild ? chance.nextInt(100) : 17 + chance.nextInt(11)) + chance.nextInt(10) + chance.nextInt(10) + chance.nextInt(10) + ";";
            case 7: return "p" + chance.nextInt(wild ? 10 : 2) + chance.nextInt(wild ? 10 : 4) + ";";
            case 8: return "x" + chance.nextInt(wild ? 10 : 2) + chance.nextInt(wild ? 10 : 3) + ";";
            case 9: return "r" + chance.nextInt(10) + ";";
            case 10: return chance.nextBoolean() ? "c" + two(chance.nextInt(wild ? 100 : 60)) + ";" : "l" + chance.nextInt(10) + two(chance.nextInt(100)) + ";";
            default: return "t" + two(chance.nextInt(100)) + ";";
        }
    }

    private static String two(int n) {
        return "" + n / 10 + n % 10;
    }

    private void call(String name, Integer... args) throws Exception {
        made++;
        Class<?>[] types = new Class<?>[args.length];
        Arrays.fill(types, int.class);
        Object got = answer(BreatheOut.class.getDeclaredMethod(name, types), tested, args);
        Object due = answer(PlainCave.class.getDeclaredMethod(name, types), plain, args);
        told.add(name + Arrays.toString(args) + " " + got);
        if (due instanceof Number) seen.computeIfAbsent(name, k -> new TreeSet<>()).add(((Number) due).longValue());
        if (!got.equals(due)) {
            wrong++;
            for (String t : told) System.out.println("  " + t);
            System.out.println(name + Arrays.toString(args) + " answered " + got + ", due is " + due);
        }
    }

    private static Object answer(Method m, Object on, Integer[] args) throws Exception {
        try {
            return m.invoke(on, (Object[]) args);
        } catch (InvocationTargetException e) {
            return "throws." + e.getCause().getClass().getSimpleName();
        }
    }

    /** A run by chance that never comes to an answer tests nothing there. */
    private void everyCallAnswersSeveralThings() {
        for (Method m : calls) {
            TreeSet<Long> answers = seen.getOrDefault(m.getName(), new TreeSet<>());
            if (answers.size() < 2) {
                wrong++;
                System.out.println(m.getName() + " came to the answers " + answers + " alone");
            }
        }
        String[] wanted = {"way -4", "posture -4", "posture 2", "widest -4", "calms -4", "rescue -3", "rescue -4", "rescue 0", "rescue 2", "rescue 3", "rescue 6", "rescue 10",
            "turns -4", "turns 0", "floods -4", "floods 7", "panic 0", "firstWays -3", "rock -4", "rock -13", "forged -4", "forged 3",
            "judge -4", "judge 2", "order -4", "order 6", "stays 0", "stays 3", "lays -2", "waits -3", "cave -2000", "cave -1000",
            "copy -13", "copy -12", "toss -15", "restore -3"};
        for (String w : wanted) {
            String[] parts = w.split(" ");
            if (!seen.get(parts[0]).contains(Long.parseLong(parts[1]))) {
                wrong++;
                System.out.println("no run came to " + w);
            }
        }
    }
}
