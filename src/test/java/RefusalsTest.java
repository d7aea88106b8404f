/**
 * Every refusal of every call: the last number that is allowed and the first that is not on either side of each
 * range, the answer that is due, the first one where several would be, and that nothing is changed by it.
 */
public final class RefusalsTest extends Checks {
    private static final long NO_SUCH_LONG = -1000000001L;
    /** What stands here for an exception thrown. */
    private static final long ARGUMENT_THROWN = -7000001L;
    private static final long STATE_THROWN = -7000002L;

    private interface Call {
        long on(BreatheOut x);
    }

    private interface Sweep {
        long on(BreatheOut x, int v);
    }

    private interface Maker {
        BreatheOut make();
    }

    public static void main(String[] args) {
        theMirrorShowsAll();
        caveRefuses();
        yardAndBodyRefuse();
        laysAndShorterRefuse();
        makesRefuses();
        changeRefuses();
        setRefuses();
        waitsRefuses();
        oneAloneRefuses();
        allRefuse();
        rescueRefuses();
        firstWaysRefuses();
        rockAndForgedRefuse();
        judgeRefuses();
        partiesRefuse();
        imageAndCountRefuse();
        keepAndRowRefuse();
        putAndElementRefuse();
        copyRefuses();
        costAndTossRefuse();
        questionsChangeNothing();
        end("all refusals are as due");
    }

    // ---- what is refused, and by whom

    /**
     * Three YARDS, three BODIES (0 and 2 STUCK at YARD 0, 1 not) in the ORDER 2, 1, 0, an image of another state.
     * SHELVES: 0 nothing, 1 a SQUEEZED, 2 bytes (3), 3 shorts (2), 4 ints (3), 5 bytes (none), 6 a CHAMBER, 7 a text.
     */
    private static BreatheOut filled() {
        BreatheOut x = new BreatheOut();
        tell(x, "y5022;b25101;t61;");
        x.image();
        tell(x, "y3620;y0030;b20459;b24236;p12;x02;r2;c20;l300;t09;");
        x.keep(1, 1, 2, 7);
        rowOf(x, 2, 0, 1, -128, 2);
        rowOf(x, 3, 1, 2, -32768);
        rowOf(x, 4, 2, 3, Integer.MIN_VALUE, 0);
        x.row(5, 0, 0);
        x.keep(6, 1, 7, 0);
        return x;
    }

    /** 12 YARDS, 6 BODIES, CLOCK 9999, a YARD on SHELF 0, a text of one more YARD on SHELF 7. */
    private static BreatheOut full() {
        BreatheOut x = new BreatheOut();
        x.keep(0, 1, 0, 0);
        for (int y = 0; y < 12; y++) x.lays(0, 20 + y);
        tell(x, "b20000;b20001;b20002;b20003;b20004;b20005;");
        for (int k = 0; k < 101; k++) x.waits(99);
        rowOf(x, 7, 0, "y0020;");
        return x;
    }

    private static Maker withText(Maker m, String text) {
        return () -> {
            BreatheOut x = m.make();
            rowOf(x, 7, 0, text);
            return x;
        };
    }

    // ---- how it is looked at

    private static long element(BreatheOut x, int d, int i) {
        try {
            return x.element(d, i);
        } catch (RuntimeException e) {
            if (e.getClass() == IllegalArgumentException.class) return ARGUMENT_THROWN;
            if (e.getClass() == IllegalStateException.class) return STATE_THROWN;
            throw e;
        }
    }

    private static void cave(BreatheOut x, StringBuilder s) {
        int yards = x.count(0);
        int bodies = x.count(1);
        for (int what = 2; what < 8; what++) s.append(x.count(what)).append(' ');
        for (int y = 0; y < yards; y++) for (int what = 0; what < 6; what++) s.append(x.yard(y, what)).append(' ');
        for (int b = 0; b < bodies; b++) for (int what = 0; what < 6; what++) s.append(x.body(b, what)).append(' ');
        s.append(yards).append(' ').append(bodies);
    }

    /** All that can be told of an object, the image last: whoever asks for it changes the object. */
    private static String mirror(BreatheOut x) {
        StringBuilder s = new StringBuilder();
        cave(x, s);
        for (int i = -1; i < 6; i++) s.append(' ').append(x.order(i));
        for (int d = 0; d < 8; d++) {
            s.append("\n").append(x.cost(d)).append(' ').append(x.toss(d));
            long e = element(x, d, 0);
            for (int i = 1; e != STATE_THROWN && i <= 100; i++) {
                s.append(' ').append(e);
                e = element(x, d, i);
            }
            // Of a ROW: what it keeps of a number tells its SORT.
            s.append(' ').append(x.put(d, 0, 70000)).append(' ').append(element(x, d, 0));
        }
        int restored = x.restore();
        s.append("\nimage ").append(restored).append(' ');
        if (restored != -3) cave(x, s);
        return s.toString();
    }

    private static void refused(Maker m, String call, Call c, long want) {
        BreatheOut x = m.make();
        due(call, c.on(x), want);
        if (!mirror(x).equals(mirror(m.make()))) {
            wrong++;
            System.out.println(about + ": " + call + " changed something");
        }
    }

    private static int[] outside(int least, int most) {
        return new int[] {Integer.MIN_VALUE, least - 1, most + 1, Integer.MAX_VALUE};
    }

    /** The least and the most are not refused as what is beyond them is. */
    private static void range(Maker m, String call, int least, int most, Sweep s, long want) {
        for (int v : new int[] {least, most}) {
            if (s.on(m.make(), v) == want) {
                wrong++;
                System.out.println(about + ": " + call + " with " + v + " is refused");
            }
        }
        for (int v : outside(least, most)) refused(m, call + " with " + v, x -> s.on(x, v), want);
    }

    private static void range(String call, int least, int most, Sweep s) {
        range(RefusalsTest::filled, call, least, most, s, -1);
    }

    /** A test of the test: each sort of change is seen. */
    private static void theMirrorShowsAll() {
        about = "the mirror";
        Call[] changes = {x -> x.shorter(), x -> x.lays(1, 20), x -> x.makes(1, 0, 0), x -> x.makes(1, 1, 0), x -> x.makes(1, 2, 30),
            x -> x.change(0, 1), x -> x.set(0, 0), x -> x.set(1, 1), x -> x.set(2, 1), x -> x.waits(1), x -> x.image(), x -> x.restore(),
            x -> x.cave(7), x -> x.keep(1, 0, 0, 0), x -> x.keep(1, 1, 2, 6), x -> x.keep(0, 1, 0, 0), x -> x.row(5, 1, 1), x -> x.row(3, 2, 2),
            x -> x.row(2, 0, 2), x -> x.put(2, 2, 0), x -> x.copy(2, 0, 2, 1, 1)};
        String before = mirror(filled());
        for (int k = 0; k < changes.length; k++) {
            BreatheOut x = filled();
            due("change " + k + " is done", changes[k].on(x) < 0 ? 0 : 1, 1);
            due("change " + k + " is seen", mirror(x).equals(before) ? 0 : 1, 1);
        }
        due("no change", mirror(filled()).equals(before) ? 1 : 0, 1);
    }

    // ---- the cave as told

    private static void caveRefuses() {
        about = "promise 2";
        Maker m = RefusalsTest::filled;
        for (int d : outside(0, 7)) refused(m, "cave " + d, x -> x.cave(d), -1);
        refused(m, "nothing on the first shelf", x -> x.cave(0), -11);
        refused(RefusalsTest::new0, "nothing on the last shelf", x -> x.cave(7), -11);
        refused(m, "a kind", x -> x.cave(1), -12);
        refused(m, "shorts", x -> x.cave(3), -12);
        refused(m, "ints", x -> x.cave(4), -12);
        refused(m, "an empty row", x -> x.cave(5), -1000);
        refused(withText(m, "r9;y0030;q"), "kind 1 behind statements that could be done", x -> x.cave(7), -1009);
        refused(withText(m, "r9;y0030;b2000"), "the end behind them", x -> x.cave(7), -1014);
        String done = "y1130;b30123;p13;x01;r9;c01;l001;t01;";
        for (String bad : new String[] {"y8020;", "y0005;", "y0041;", "b09000;", "b51000;", "p40;", "p04;", "x04;", "x40;", "x11;", "c00;", "c61;"}) {
            refused(withText(m, done + bad), "all but the last could be done: " + bad, x -> x.cave(7), -2000 - done.length());
        }
        refused(RefusalsTest::full, "a YARD more than 12", x -> x.cave(7), -2000);
        refused(withText(RefusalsTest::full, "r2;b20000;"), "a BODY more than 6", x -> x.cave(7), -2003);
        refused(withText(RefusalsTest::full, "r2;t00;t01;"), "CLOCK above 9999", x -> x.cave(7), -2007);
    }

    private static BreatheOut new0() {
        return new BreatheOut();
    }

    private static void yardAndBodyRefuse() {
        about = "promise 3";
        range("yard", 0, 2, (x, v) -> x.yard(v, 0));
        range("what of a yard", 0, 5, (x, v) -> x.yard(2, v));
        range(RefusalsTest::full, "yard of 12", 0, 11, (x, v) -> x.yard(v, 2), -1);
        refused(RefusalsTest::new0, "no yard", x -> x.yard(0, 0), -1);
        about = "promise 4";
        range("body", 0, 2, (x, v) -> x.body(v, 0));
        range("what of a body", 0, 5, (x, v) -> x.body(2, v));
        range(RefusalsTest::full, "body of 6", 0, 5, (x, v) -> x.body(v, 0), -1);
        refused(RefusalsTest::new0, "nobody", x -> x.body(0, 5), -1);
    }

    private static void laysAndShorterRefuse() {
        about = "promise 5";
        range("width", 6, 40, (x, v) -> x.lays(1, v));
        range("shelf", 0, 7, (x, v) -> x.lays(v, 20));
        refused(RefusalsTest::filled, "nothing", x -> x.lays(0, 20), -11);
        for (int d : new int[] {2, 3, 4, 5, 7}) refused(RefusalsTest::filled, "a row", x -> x.lays(d, 20), -12);
        refused(RefusalsTest::full, "no room", x -> x.lays(0, 40), -2);
        refused(RefusalsTest::full, "-1 ahead of -2", x -> x.lays(0, 41), -1);
        refused(RefusalsTest::full, "-1 ahead of -2", x -> x.lays(8, 40), -1);
        refused(RefusalsTest::full, "-11 ahead of -2", x -> x.lays(1, 40), -11);
        refused(RefusalsTest::full, "-12 ahead of -2", x -> x.lays(7, 40), -12);
        refused(RefusalsTest::filled, "-1 ahead of -11", x -> x.lays(0, 5), -1);
        refused(RefusalsTest::filled, "-1 ahead of -12", x -> x.lays(2, 41), -1);
        about = "promise 6";
        refused(RefusalsTest::new0, "none", x -> x.shorter(), -3);
        BreatheOut x = filled();
        for (int y = 2; y >= 0; y--) due("one less", x.shorter(), y);
        due("none left", x.shorter(), -3);
        due("none left", x.count(0), 0);
    }

    private static void makesRefuses() {
        about = "promise 7";
        range("body", 0, 2, (x, v) -> x.makes(v, 0, 4));
        range("what", 0, 2, (x, v) -> x.makes(1, v, v == 2 ? 10 : 0));
        range("FEAR", 0, 9, (x, v) -> x.makes(1, 0, v));
        range("POSTURE", 0, 3, (x, v) -> x.makes(1, 1, v));
        range("CHEST", 10, 50, (x, v) -> x.makes(1, 2, v));
        refused(RefusalsTest::new0, "nobody", x -> x.makes(0, 0, 0), -1);
        refused(RefusalsTest::full, "a seventh", x -> x.makes(6, 0, 0), -1);
    }

    private static void changeRefuses() {
        about = "promise 8";
        range("the first", 0, 2, (x, v) -> x.change(v, v == 1 ? 0 : 1));
        range("the second", 0, 2, (x, v) -> x.change(v == 1 ? 0 : 1, v));
        for (int b = 0; b < 3; b++) {
            int one = b;
            refused(RefusalsTest::filled, "one twice", x -> x.change(one, one), -1);
        }
        refused(RefusalsTest::filled, "no such one twice", x -> x.change(3, 3), -1);
        refused(RefusalsTest::new0, "nobody", x -> x.change(0, 1), -1);
    }

    private static void setRefuses() {
        about = "promise 9";
        range("what", 0, 2, (x, v) -> x.set(v, 5));
        range("RISE", 0, 9, (x, v) -> x.set(0, v));
        range("CALM", 1, 60, (x, v) -> x.set(1, v));
        range("LIGHT", 0, 999, (x, v) -> x.set(2, v));
    }

    /** CLOCK 9900. */
    private static BreatheOut late() {
        BreatheOut x = new BreatheOut();
        for (int k = 0; k < 100; k++) x.waits(99);
        return x;
    }

    private static void waitsRefuses() {
        about = "promise 10";
        range("MINUTES", 0, 99, (x, v) -> x.waits(v));
        due("9999", late().waits(99), 9999);
        refused(RefusalsTest::full, "10000", x -> x.waits(1), -3);
        refused(RefusalsTest::full, "10098", x -> x.waits(99), -3);
        refused(RefusalsTest::full, "-1 ahead of -3", x -> x.waits(100), -1);
        refused(RefusalsTest::full, "-1", x -> x.waits(Integer.MAX_VALUE), -1);
        due("9999 and none", full().waits(0), 9999);
        refused(() -> {
            BreatheOut x = late();
            x.waits(1);
            return x;
        }, "9901 and 99", x -> x.waits(99), -3);
    }

    // ---- one alone, all

    private static void oneAloneRefuses() {
        about = "promise 11";
        range("body", 0, 2, (x, v) -> x.size(v, 0, 0, 0));
        range("yard", 0, 2, (x, v) -> x.size(0, v, 0, 0));
        range("posture", 0, 3, (x, v) -> x.size(0, 0, v, 0));
        range("out", 0, 1, (x, v) -> x.size(0, 0, 0, v));
        about = "promise 12";
        range("body", 0, 2, (x, v) -> x.fits(v, 0));
        range("yard", 0, 2, (x, v) -> x.fits(0, v));
        about = "promise 13";
        range("body", 0, 2, (x, v) -> x.way(v, 0, 1));
        range("back", 0, 1, (x, v) -> x.way(0, v, 1));
        range("what", 0, 2, (x, v) -> x.way(0, 0, v));
        about = "promise 14";
        range("body", 0, 2, (x, v) -> x.posture(v));
        about = "promise 15";
        range("body", 0, 2, (x, v) -> x.lacks(v));
        about = "promise 16";
        range("body", 0, 2, (x, v) -> x.widest(v));
        Call[] ofNobody = {x -> x.size(0, 0, 0, 0), x -> x.fits(0, 0), x -> x.way(0, 0, 0), x -> x.posture(0), x -> x.lacks(0), x -> x.widest(0),
            x -> x.help(0), x -> x.calms(0), x -> x.floods(0, 0)};
        about = "of nobody";
        for (Call c : ofNobody) refused(RefusalsTest::new0, "of nobody", c, -1);
    }

    private static void allRefuse() {
        about = "promise 17";
        range("what", 0, 4, (x, v) -> x.go(v));
        about = "promise 18";
        range("what", 0, 3, (x, v) -> x.back(v));
        about = "promise 19";
        range("body", 0, 2, (x, v) -> x.help(v));
        about = "promise 20";
        for (int i : new int[] {-2, -3, Integer.MIN_VALUE}) refused(RefusalsTest::filled, "below -1", x -> x.order(i), -1);
        for (int i : new int[] {3, 4, Integer.MAX_VALUE}) refused(RefusalsTest::filled, "no i-th", x -> x.order(i), -4);
        due("the last there is", filled().order(2) >= 0 ? 1 : 0, 1);
        refused(RefusalsTest::new0, "nobody", x -> x.order(0), -4);
        refused(RefusalsTest::new0, "nobody", x -> x.order(-2), -1);
        about = "promise 22";
        range("body", 0, 2, (x, v) -> x.calms(v));
        about = "promise 25";
        range("body", 0, 2, (x, v) -> x.floods(v, 0));
        range("yard", 0, 2, (x, v) -> x.floods(0, v));
        about = "promise 27";
        range(RefusalsTest::filled, "part", 0, 1, (x, v) -> x.panic(v), NO_SUCH_LONG);
    }

    private static void rescueRefuses() {
        about = "promise 23";
        range("body", 0, 2, (x, v) -> x.rescue(v, 0, 6, -1));
        range("yard", 0, 2, (x, v) -> x.rescue(0, v, 6, -1));
        range("deeds", 0, 6, (x, v) -> x.rescue(0, 0, v, -1));
        for (int i : new int[] {-2, Integer.MIN_VALUE}) refused(RefusalsTest::filled, "below -1", x -> x.rescue(0, 0, 6, i), -1);
        for (int i : new int[] {6, 7, Integer.MAX_VALUE}) refused(RefusalsTest::filled, "no i-th", x -> x.rescue(0, 0, 6, i), -4);
        // 0 lacks 3 inches, so no deed is too few.
        refused(RefusalsTest::filled, "no deeds", x -> x.rescue(0, 0, 0, -1), -4);
        refused(RefusalsTest::filled, "no deeds", x -> x.rescue(0, 0, 0, 0), -4);
        refused(RefusalsTest::filled, "not STUCK, breathed in", x -> x.rescue(1, 0, 6, -1), -3);
        refused(RefusalsTest::filled, "no deeds, not STUCK", x -> x.rescue(1, 0, 0, -1), -3);
        refused(RefusalsTest::filled, "no i-th, not STUCK", x -> x.rescue(1, 0, 6, 9), -3);
        due("0 FITS breathed in at yard 2", filled().fits(0, 2), 0);
        refused(RefusalsTest::filled, "not STUCK there", x -> x.rescue(0, 2, 6, -1), -3);
        for (int v : outside(0, 6)) refused(RefusalsTest::filled, "-1 ahead of -3", x -> x.rescue(1, 0, v, -1), -1);
        refused(RefusalsTest::filled, "-1 ahead of -3", x -> x.rescue(1, 0, 6, -2), -1);
        refused(RefusalsTest::new0, "nobody", x -> x.rescue(0, 0, 6, -1), -1);
        // 24 - 1 in 22 breathed in, 22 breathed out: it FITS breathed out.
        refused(() -> told("y0022;b24100;"), "not STUCK, breathed out", x -> x.rescue(0, 0, 6, -1), -3);
    }

    private static void firstWaysRefuses() {
        about = "promise 28";
        refused(RefusalsTest::full, "6 BODIES", x -> x.firstWays(), -3);
        refused(() -> told("b20000;b20000;b20000;b20000;b20000;"), "5 BODIES", x -> x.firstWays(), -3);
        due("4 BODIES", told("b20000;b20000;b20000;b20000;").firstWays(), 0);
    }

    // ---- rocks, told minutes

    /** As filled(), with ROWS of 3 (shelf 2, bytes) and 4 numbers (shelf 0, ints) at 3 YARDS. */
    private static BreatheOut rocky() {
        BreatheOut x = filled();
        x.row(0, 2, 4);
        x.keep(5, 0, 0, 0);
        return x;
    }

    private static void rockAndForgedRefuse() {
        int[] shelves = {-1, 0, 1, 2, 5, 8};
        for (int b : new int[] {-1, 0, 2, 3}) {
            for (int d : shelves) {
                boolean there = b >= 0 && b < 3 && d >= 0 && d < 8;
                long want = !there ? -1 : d == 5 ? -11 : d == 1 ? -12 : d == 0 ? -13 : 0;
                about = "promise 29";
                for (int what : new int[] {-1, 0, 1, 2}) {
                    long told = what < 0 || what > 1 ? -1 : want;
                    if (told != 0) refused(RefusalsTest::rocky, "rock " + b + " " + d + " " + what, x -> x.rock(b, d, what), told);
                }
                about = "promise 30";
                if (want != 0) refused(RefusalsTest::rocky, "forged " + b + " " + d, x -> x.forged(b, d), want);
            }
        }
        about = "promise 29";
        range(RefusalsTest::rocky, "body", 0, 2, (x, v) -> x.rock(v, 2, 0), -1);
        range(RefusalsTest::rocky, "shelf", 0, 7, (x, v) -> x.rock(0, v, 0), -1);
        range(RefusalsTest::rocky, "what", 0, 1, (x, v) -> x.rock(0, 2, v), -1);
        due("as many numbers as YARDS", rocky().rock(0, 2, 0) >= 0 ? 1 : 0, 1);
        about = "promise 30";
        range(RefusalsTest::rocky, "body", 0, 2, (x, v) -> x.forged(v, 2), -1);
        range(RefusalsTest::rocky, "shelf", 0, 7, (x, v) -> x.forged(0, v), -1);
        due("as many numbers as YARDS", rocky().forged(0, 2) >= -4 ? 1 : 0, 1);
        BreatheOut x = told("b20000;");
        x.row(0, 0, 0);
        x.row(1, 0, 1);
        due("no numbers, no YARDS", x.forged(0, 0), -4);
        due("a number, no YARDS", x.forged(0, 1), -13);
        due("a number, no YARDS", x.rock(0, 1, 0), -13);
        due("a hundred numbers, 12 YARDS", hundred().rock(0, 1, 0), -13);
    }

    private static BreatheOut hundred() {
        BreatheOut x = full();
        x.row(1, 2, 100);
        return x;
    }

    private static void judgeRefuses() {
        about = "promise 31";
        range("shelf", 0, 7, (x, v) -> x.judge(v));
        refused(RefusalsTest::filled, "nothing", x -> x.judge(0), -11);
        refused(RefusalsTest::filled, "a kind", x -> x.judge(1), -12);
        refused(RefusalsTest::filled, "a kind", x -> x.judge(6), -12);
        due("more numbers than BODIES are no refusal", hundred().judge(1), 0);
    }

    private static void partiesRefuse() {
        about = "promise 32";
        range("parties", 1, 20, (x, v) -> x.parties(v, 1, 0));
        range("what", 0, 1, (x, v) -> x.parties(1, 1, v));
    }

    // ---- the image, what is told

    private static void imageAndCountRefuse() {
        about = "promise 34";
        refused(RefusalsTest::new0, "there is none", x -> x.restore(), -3);
        refused(RefusalsTest::full, "there is none", x -> x.restore(), -3);
        about = "promise 35";
        range("what", 0, 7, (x, v) -> x.count(v));
    }

    // ---- shelves

    private static void keepAndRowRefuse() {
        about = "promise 36";
        range("shelf, nothing", 0, 7, (x, v) -> x.keep(v, 0, 0, 0));
        range("shelf, a kind", 0, 7, (x, v) -> x.keep(v, 1, 0, 0));
        range("what", 0, 1, (x, v) -> x.keep(2, v, 0, 0));
        range("KIND", 0, 7, (x, v) -> x.keep(2, 1, v, 0));
        range("FIGURE", 0, 9, (x, v) -> x.keep(2, 1, 7, v));
        for (int v : outside(0, 7)) {
            due("nothing, whatever the others", filled().keep(2, 0, v, 0), 0);
            due("nothing, whatever the others", filled().keep(2, 0, 0, v), 0);
            refused(RefusalsTest::filled, "no such shelf, whatever the others", x -> x.keep(8, 0, v, v), -1);
        }
        about = "promise 37";
        range("shelf", 0, 7, (x, v) -> x.row(v, 0, 3));
        range("sort", 0, 2, (x, v) -> x.row(3, v, 3));
        for (int n : new int[] {101, Integer.MAX_VALUE}) refused(RefusalsTest::filled, "above 100", x -> x.row(3, 0, n), -1);
        for (int n : new int[] {-1, Integer.MIN_VALUE}) {
            refused(RefusalsTest::filled, "below 0", x -> x.row(3, 0, n), -14);
            refused(RefusalsTest::filled, "-1 ahead of -14", x -> x.row(8, 0, n), -1);
            refused(RefusalsTest::filled, "-1 ahead of -14", x -> x.row(-1, 0, n), -1);
            refused(RefusalsTest::filled, "-1 ahead of -14", x -> x.row(3, 3, n), -1);
            refused(RefusalsTest::filled, "-1 ahead of -14", x -> x.row(3, -1, n), -1);
        }
        due("none", filled().row(3, 0, 0), 0);
        due("a hundred", filled().row(3, 0, 100), 0);
    }

    private static void putAndElementRefuse() {
        int[] lengths = {-11, -12, 3, 2, 3, 0, -12};
        int[] places = {Integer.MIN_VALUE, -1, 0, 1, 2, 3, 99, 100, Integer.MAX_VALUE};
        for (int d : new int[] {Integer.MIN_VALUE, -1, 0, 1, 2, 3, 4, 5, 6, 8, Integer.MAX_VALUE}) {
            for (int i : places) {
                boolean there = d >= 0 && d < 8;
                int length = there ? lengths[d] : 0;
                boolean placed = i >= 0 && i < length;
                about = "promise 38";
                long want = !there ? -1 : length < 0 ? length : placed ? 0 : -13;
                if (want != 0) refused(RefusalsTest::filled, "put " + d + " " + i, x -> x.put(d, i, 5), want);
                about = "promise 39";
                if (!placed) refused(RefusalsTest::filled, "element " + d + " " + i, x -> element(x, d, i), there ? STATE_THROWN : ARGUMENT_THROWN);
            }
        }
        about = "promise 38";
        range(RefusalsTest::filled, "place", 0, 2, (x, v) -> x.put(4, v, 5), -13);
        about = "promise 39";
        range(RefusalsTest::filled, "place", 0, 2, (x, v) -> element(x, 4, v), STATE_THROWN);
        range(RefusalsTest::filled, "shelf", 0, 7, (x, v) -> element(x, v, 0), ARGUMENT_THROWN);
        due("the first", element(filled(), 4, 0), 3);
        due("the last", element(filled(), 4, 2), 0);
        range(RefusalsTest::hundred, "place of a hundred", 0, 99, (x, v) -> element(x, 1, v), STATE_THROWN);
    }

    private static void copyRefuses() {
        about = "promise 40";
        int[] shelves = {-1, 0, 1, 2, 3, 4, 5, 8};
        int[] numbers = {Integer.MIN_VALUE, -1, 0, 1, 2, 3, 4, Integer.MAX_VALUE};
        for (int d : shelves) for (int e : shelves) for (int i : numbers) for (int j : numbers) for (int n : numbers) copied(d, i, e, j, n);
    }

    private static void copied(int d, int i, int e, int j, int n) {
        int[] sorts = {-1, -1, 0, 1, 2, 0};
        int[] lengths = {0, 0, 3, 2, 3, 0};
        long want = n;
        if (d < 0 || d > 7 || e < 0 || e > 7) want = -1;
        else if (d == 0 || e == 0) want = -11;
        else if (d == 1 || e == 1 || sorts[d] != sorts[e]) want = -12;
        else if (n < 0 || i < 0 || j < 0 || i + (long) n > lengths[d] || j + (long) n > lengths[e]) want = -13;
        String call = "copy " + d + " " + i + " " + e + " " + j + " " + n;
        if (want < 0) refused(RefusalsTest::filled, call, x -> x.copy(d, i, e, j, n), want);
        else due(call, filled().copy(d, i, e, j, n), n);
    }

    private static void costAndTossRefuse() {
        about = "promise 41";
        range("shelf", 0, 7, (x, v) -> x.cost(v));
        refused(RefusalsTest::filled, "nothing", x -> x.cost(0), -11);
        for (int d : new int[] {2, 3, 4, 5, 7}) refused(RefusalsTest::filled, "a row", x -> x.cost(d), -12);
        about = "promise 42";
        range("shelf", 0, 7, (x, v) -> x.toss(v));
        refused(RefusalsTest::filled, "nothing", x -> x.toss(0), -11);
        for (int d : new int[] {2, 3, 4, 5, 7}) refused(RefusalsTest::filled, "a row", x -> x.toss(d), -12);
        refused(RefusalsTest::filled, "a CHAMBER, FIGURE 0", x -> x.toss(6), -15);
        for (int k = 0; k < 8; k++) {
            int kind = k;
            refused(() -> {
                BreatheOut x = filled();
                x.keep(0, 1, kind, 0);
                return x;
            }, "FIGURE 0 of kind " + k, x -> x.toss(0), -15);
        }
        for (int f = 0; f < 10; f++) {
            int figure = f;
            refused(() -> {
                BreatheOut x = filled();
                x.keep(0, 1, 7, figure);
                return x;
            }, "a CHAMBER, FIGURE " + f, x -> x.toss(0), -15);
        }
    }

    // ---- questions

    private static void questionsChangeNothing() {
        about = "a question changes nothing";
        Call[] questions = {x -> x.yard(0, 3), x -> x.body(0, 5), x -> x.size(0, 0, 3, 1), x -> x.fits(0, 0), x -> x.way(0, 0, 1), x -> x.way(1, 1, 1),
            x -> x.posture(0), x -> x.lacks(0), x -> x.widest(0), x -> x.go(0), x -> x.back(0), x -> x.help(0), x -> x.order(-1), x -> x.order(0),
            x -> x.stays(), x -> x.calms(0), x -> x.rescue(0, 0, 6, -1), x -> x.turns(), x -> x.floods(0, 0), x -> x.haste(), x -> x.panic(0),
            x -> x.firstWays(), x -> x.rock(0, 2, 0), x -> x.forged(0, 2), x -> x.judge(2), x -> x.parties(3, 7, 0), x -> x.count(0),
            x -> element(x, 2, 0), x -> x.cost(1), x -> x.toss(1)};
        String before = mirror(filled());
        for (int k = 0; k < questions.length; k++) {
            BreatheOut x = filled();
            long first = questions[k].on(x);
            due("question " + k + ", asked again", questions[k].on(x), first);
            due("question " + k, mirror(x).equals(before) ? 1 : 0, 1);
        }
    }
}
