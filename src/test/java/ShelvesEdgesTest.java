/** Part III of the Terms, and THE IMAGE: sentence by sentence the edges of what is kept, worked out by hand. */
public final class ShelvesEdgesTest extends Checks {
    private static final int LEAST = Integer.MIN_VALUE;
    private static final int MOST = Integer.MAX_VALUE;

    public static void main(String[] args) {
        nothingAtFirst();
        eightShelves();
        whatIsKept();
        rowsOfEachLength();
        nothingInThemAtFirst();
        lowestBits();
        elementsAreThrownFor();
        copies();
        copiesOntoThemselves();
        copiesOfBits();
        costs();
        failures();
        whatIsTakenStays();
        imageOfNothing();
        imageOfAll();
        imageStays();
        nothingIsLeftOfWhatWas();
        shelvesAreNotInTheImage();
        end("the edges of part III hold");
    }

    private static void nothingAtFirst() {
        about = "SHELVES each hold nothing (at first)";
        BreatheOut x = new BreatheOut();
        for (int d = 0; d < 8; d++) {
            due("cost", x.cost(d), -11);
            due("toss", x.toss(d), -11);
            due("put", x.put(d, 0, 0), -11);
            due("cave", x.cave(d), -11);
            due("lays", x.lays(d, 20), -11);
            due("judge", x.judge(d), -11);
            due("copy", x.copy(d, 0, d, 0, 0), -11);
            due("element", thrown(x, d, 0), 2);
        }
    }

    private static void eightShelves() {
        about = "SHELVES 0 .. 7";
        BreatheOut x = new BreatheOut();
        for (int d = 0; d < 8; d++) {
            due("a kind", x.keep(d, 1, 2, d + 1), 0);
            due("only there", x.cost(d), 4 + d);
            if (d < 7) due("not on the next", x.cost(d + 1), -11);
        }
        for (int d = 0; d < 8; d++) due("each its own", x.toss(d), 101 + d);
        for (int d = 0; d < 8; d++) {
            due("a row", x.row(d, d % 3, d), 0);
            due("put", x.put(d, d - 1, d), d == 0 ? -13 : 0);
        }
        for (int d = 1; d < 8; d++) due("each its own", x.element(d, d - 1), d);
    }

    private static void whatIsKept() {
        about = "nothing, a YARD's KIND, a ROW";
        BreatheOut x = new BreatheOut();
        due("nothing where nothing was", x.keep(0, 0, 0, 0), 0);
        due("nothing", x.cost(0), -11);
        due("a kind", x.keep(0, 1, 5, 0), 0);
        due("a kind", x.cost(0), 4);
        due("another", x.keep(0, 1, 7, 9), 0);
        due("another", x.cost(0), 10);
        due("a row in its place", x.row(0, 0, 1), 0);
        due("a row", x.cost(0), -12);
        due("its element", x.element(0, 0), 0);
        due("a kind in its place", x.keep(0, 1, 0, 0), 0);
        due("no row", thrown(x, 0, 0), 2);
        due("a row again", x.row(0, 0, 1), 0);
        for (int k : new int[] {LEAST, -1, 8, MOST}) for (int f : new int[] {LEAST, -1, 10, MOST}) due("the others do not matter", x.keep(0, 0, k, f), 0);
        due("nothing", x.put(0, 0, 1), -11);
    }

    private static void rowsOfEachLength() {
        about = "0 .. 100 elements";
        for (int sort = 0; sort < 3; sort++) {
            for (int n : new int[] {0, 1, 2, 50, 99, 100}) {
                BreatheOut x = new BreatheOut();
                due("row of " + n, x.row(3, sort, n), 0);
                for (int i : new int[] {LEAST, -1, 0, n - 1, n, 100, MOST}) {
                    boolean there = i >= 0 && i < n;
                    due("put " + i + " of " + n, x.put(3, i, 7), there ? 0 : -13);
                    due("element " + i + " of " + n, thrown(x, 3, i), there ? 0 : 2);
                }
                if (n > 0) due("the first", x.element(3, 0), 7);
                if (n > 0) due("the last", x.element(3, n - 1), 7);
                if (n > 2) due("between", x.element(3, 1), 0);
            }
        }
    }

    private static void nothingInThemAtFirst() {
        about = "elements, 0 at first";
        BreatheOut x = new BreatheOut();
        for (int sort = 0; sort < 3; sort++) {
            x.row(0, sort, 100);
            for (int i = 0; i < 100; i += 11) due("element " + i, x.element(0, i), 0);
            for (int i = 0; i < 100; i += 11) x.put(0, i, -1);
            x.row(0, sort, 12);
            x.row(0, sort, 100);
            for (int i = 0; i < 100; i += 11) due("element " + i + " of a new one", x.element(0, i), 0);
            x.put(0, 99, 5);
        }
    }

    private static void lowestBits() {
        about = "what is put in keeps its lowest bits";
        int[] put = {0, 1, -1, 127, 128, -128, -129, 255, 256, 257, 32767, 32768, -32768, -32769, 65535, 65536, 65537, MOST, LEAST, LEAST + 1};
        int[] bytes = {0, 1, -1, 127, -128, -128, 127, -1, 0, 1, -1, 0, 0, -1, -1, 0, 1, -1, 0, 1};
        int[] shorts = {0, 1, -1, 127, 128, -128, -129, 255, 256, 257, 32767, -32768, -32768, 32767, -1, 0, 1, -1, 0, 1};
        int[][] kept = {bytes, shorts, put};
        for (int sort = 0; sort < 3; sort++) {
            BreatheOut x = new BreatheOut();
            x.row(0, sort, put.length);
            for (int i = 0; i < put.length; i++) due("put", x.put(0, i, put[i]), 0);
            for (int i = 0; i < put.length; i++) due("sort " + sort + ", " + put[i], x.element(0, i), kept[sort][i]);
        }
    }

    private static void elementsAreThrownFor() {
        about = "IllegalArgumentException: no such SHELF; IllegalStateException: no ROW, no such place";
        BreatheOut x = new BreatheOut();
        x.keep(1, 1, 0, 0);
        x.row(2, 0, 1);
        for (int d : new int[] {LEAST, -1, 8, MOST}) for (int i : new int[] {LEAST, -1, 0, MOST}) due("no such SHELF", thrown(x, d, i), 1);
        for (int d = 0; d < 2; d++) for (int i : new int[] {LEAST, -1, 0, MOST}) due("no ROW", thrown(x, d, i), 2);
        for (int i : new int[] {LEAST, -1, 1, 100, MOST}) due("no such place", thrown(x, 2, i), 2);
        due("the place", thrown(x, 2, 0), 0);
        due("the last shelf", thrown(x, 7, 0), 2);
    }

    private static void elements(BreatheOut x, int d, int... due) {
        for (int i = 0; i < due.length; i++) due("element " + i + " of shelf " + d, x.element(d, i), due[i]);
        due("no more on shelf " + d, thrown(x, d, due.length), 2);
    }

    private static BreatheOut threeAndFive(int sort) {
        BreatheOut x = new BreatheOut();
        rowOf(x, 0, sort, 1, 2, 3, 4, 5);
        rowOf(x, 1, sort, 7, 8, 9);
        return x;
    }

    private static void copies() {
        about = "n elements from i on come to j on";
        for (int sort = 0; sort < 3; sort++) {
            BreatheOut x = threeAndFive(sort);
            due("none", x.copy(0, 0, 1, 0, 0), 0);
            due("none, from the end", x.copy(0, 5, 1, 3, 0), 0);
            due("none, from behind the end", x.copy(0, 6, 1, 0, 0), -13);
            due("none, to behind the end", x.copy(0, 0, 1, 4, 0), -13);
            due("too many there", x.copy(0, 0, 1, 0, 4), -13);
            due("too many there from 1 on", x.copy(0, 0, 1, 1, 3), -13);
            due("too many here", x.copy(1, 0, 0, 0, 4), -13);
            due("too many here from 1 on", x.copy(1, 1, 0, 0, 3), -13);
            elements(x, 1, 7, 8, 9);
            elements(x, 0, 1, 2, 3, 4, 5);
            due("the last here, the first there", x.copy(0, 4, 1, 0, 1), 1);
            elements(x, 1, 5, 8, 9);
            due("the first here, the last there", x.copy(0, 0, 1, 2, 1), 1);
            elements(x, 1, 5, 8, 1);
            due("all there", x.copy(0, 2, 1, 0, 3), 3);
            elements(x, 1, 3, 4, 5);
            due("all here", x.copy(1, 0, 0, 0, 3), 3);
            elements(x, 0, 3, 4, 5, 4, 5);
            due("sums that wrap around", x.copy(0, MOST, 1, 0, 1), -13);
            due("sums that wrap around", x.copy(0, 0, 1, MOST, 1), -13);
            due("sums that wrap around", x.copy(0, 1, 1, 1, MOST), -13);
            due("sums that wrap around", x.copy(0, MOST, 1, MOST, MOST), -13);
            due("sums that wrap around", x.copy(0, LEAST, 1, LEAST, LEAST), -13);
        }
        BreatheOut x = new BreatheOut();
        x.row(0, 0, 100);
        x.row(1, 0, 100);
        x.row(2, 0, 0);
        x.put(0, 99, 6);
        due("a hundred", x.copy(0, 0, 1, 0, 100), 100);
        due("the last of a hundred", x.element(1, 99), 6);
        due("a hundred and one", x.copy(0, 0, 1, 0, 101), -13);
        due("none of none", x.copy(2, 0, 2, 0, 0), 0);
        due("one of none", x.copy(2, 0, 0, 0, 1), -13);
        due("one to none", x.copy(0, 0, 2, 0, 1), -13);
        due("of none", x.copy(2, 0, 0, 100, 0), 0);
    }

    private static void copiesOntoThemselves() {
        about = "from one ROW to itself";
        BreatheOut x = threeAndFive(2);
        due("forward", x.copy(0, 0, 0, 1, 4), 4);
        elements(x, 0, 1, 1, 2, 3, 4);
        x = threeAndFive(1);
        due("back", x.copy(0, 1, 0, 0, 4), 4);
        elements(x, 0, 2, 3, 4, 5, 5);
        due("where it is", x.copy(0, 0, 0, 0, 5), 5);
        elements(x, 0, 2, 3, 4, 5, 5);
    }

    private static void copiesOfBits() {
        about = "ROWS of one SORT";
        int[] least = {-128, -32768, LEAST};
        for (int a = 0; a < 3; a++) {
            for (int b = 0; b < 3; b++) {
                BreatheOut x = new BreatheOut();
                rowOf(x, 0, a, least[a], -1 - least[a]);
                rowOf(x, 1, b, 5, 6);
                due("sorts " + a + ", " + b, x.copy(0, 0, 1, 0, 2), a == b ? 2 : -12);
                if (a == b) elements(x, 1, least[a], -1 - least[a]);
                else elements(x, 1, 5, 6);
                x.row(0, a, 0);
                x.row(1, b, 0);
                due("empty, sorts " + a + ", " + b, x.copy(0, 0, 1, 0, 0), a == b ? 0 : -12);
            }
        }
    }

    private static void costs() {
        about = "COST";
        BreatheOut x = new BreatheOut();
        for (int f = 0; f < 10; f++) {
            int[] costs = {3, 1, 3 + f, 6 + 2 * f, 9, 4, 12 + f, 1 + f};
            for (int k = 0; k < 8; k++) {
                x.keep(0, 1, k, f);
                due("kind " + k + ", figure " + f, x.cost(0), costs[k]);
            }
        }
    }

    private static void failures() {
        about = "FAILURE; -15";
        BreatheOut x = new BreatheOut();
        for (int f = 0; f < 10; f++) {
            int[] tosses = {f, f, 100 + f, 100 + f, f, f, 212 + f, -15};
            for (int k = 0; k < 8; k++) {
                x.keep(0, 1, k, f);
                due("kind " + k + ", figure " + f, x.toss(0), f == 0 ? -15 : tosses[k]);
                due("and again", x.toss(0), f == 0 ? -15 : tosses[k]);
            }
        }
    }

    private static void whatIsTakenStays() {
        about = "what is taken from a SHELF stays there";
        BreatheOut x = new BreatheOut();
        x.keep(0, 1, 6, 4);
        for (int y = 0; y < 12; y++) due("laid", x.lays(0, 20), y);
        due("no room", x.lays(0, 20), -2);
        due("still there", x.cost(0), 16);
        due("still there", x.toss(0), 216);
        x.keep(0, 1, 1, 9);
        due("what was laid is as it was", x.yard(11, 0), 6);
        due("what was laid is as it was", x.yard(0, 1), 4);
    }

    private static void imageOfNothing() {
        about = "THE IMAGE of a new object";
        BreatheOut x = new BreatheOut();
        due("CLOCK", x.image(), 0);
        tell(x, "y0020;b20000;r9;c60;l999;t99;");
        due("CLOCK", x.restore(), 0);
        int[] counts = {0, 0, 0, 1, 15, 120, 0, 0};
        for (int what = 0; what < 8; what++) due("count " + what, x.count(what), counts[what]);
        due("no yard", x.yard(0, 0), -1);
        due("nobody", x.body(0, 0), -1);
    }

    private static void imageOfAll() {
        about = "RESTORED all is as it was then";
        String text = "y0020;y3921;y5040;y4040;b21234;b32345;b43456;p11;p22;x02;r3;c04;l005;t66;";
        BreatheOut due = told(text);
        BreatheOut x = told(text);
        due("CLOCK", x.image(), 66);
        for (int k = 0; k < 4; k++) x.shorter();
        tell(x, "y7706;y6607;y1108;y2209;b10000;p03;p13;p23;x01;x13;r9;c60;l999;t88;");
        for (int b = 0; b < 4; b++) x.makes(b, 0, 9);
        for (int b = 0; b < 4; b++) x.makes(b, 2, 50);
        due("CLOCK", x.restore(), 66);
        for (int what = 0; what < 8; what++) due("count " + what, x.count(what), due.count(what));
        for (int y = 0; y < 4; y++) for (int what = 0; what < 6; what++) due("yard " + y + ", " + what, x.yard(y, what), due.yard(y, what));
        for (int b = 0; b < 4; b++) for (int what = 0; what < 6; what++) due("body " + b + ", " + what, x.body(b, what), due.body(b, what));
        for (int p = 0; p < 4; p++) for (int y = 0; y < 4; y++) due("size", x.size(0, y, p, 1), due.size(0, y, p, 1));
        for (int what = 0; what < 4; what++) due("back " + what, x.back(what), due.back(what));
        for (int i = -1; i < 3; i++) due("best order " + i, x.order(i), due.order(i));
    }

    private static void imageStays() {
        about = "THE IMAGE";
        BreatheOut x = new BreatheOut();
        due("none", x.restore(), -3);
        x.waits(1);
        due("none", x.restore(), -3);
        due("nothing changed", x.count(2), 1);
        due("taken", x.image(), 1);
        for (int k = 0; k < 3; k++) {
            x.waits(10 + k);
            tell(x, "y0020;b20000;");
            due("again and again", x.restore(), 1);
            due("again and again", x.count(0) + x.count(1), 0);
        }
        x.waits(5);
        due("another in its place", x.image(), 6);
        x.waits(5);
        due("the later one", x.restore(), 6);
        due("THE IMAGE is not in itself", x.restore(), 6);
    }

    private static void nothingIsLeftOfWhatWas() {
        about = "RESTORED, nothing is left of what came later";
        BreatheOut x = told("y0020;b20000;");
        x.image();
        tell(x, "b30999;p13;x01;y7940;");
        x.restore();
        due("told", tell(x, "b40000;y0010;"), 2);
        int[] traits = {40, 0, 0, 0, 0, 1};
        for (int what = 0; what < 6; what++) due("body 1, " + what, x.body(1, what), traits[what]);
        int[] yard = {0, 0, 10, 10, 2, 2};
        for (int what = 0; what < 6; what++) due("yard 1, " + what, x.yard(1, what), yard[what]);
        due("MORE", x.size(1, 1, 1, 0), 40);
        about = "shorter: the last YARD is no more";
        x = told("y0020;y3920;y4920;y5920;");
        tell(x, "b20000;r2;t60;");
        for (int y = 3; y >= 0; y--) due("shorter", x.shorter(), y);
        tell(x, "y0030;y0030;y0030;y0030;");
        for (int y = 0; y < 4; y++) {
            due("room", x.yard(y, 3), 30);
            due("there", x.yard(y, 4), 2);
            due("back", x.yard(y, 5), 2);
            for (int p = 0; p < 4; p++) due("size", x.size(0, y, p, 0), 19 + p % 2);
        }
    }

    private static void shelvesAreNotInTheImage() {
        about = "when THE IMAGE is RESTORED, SHELVES stay as they are";
        BreatheOut x = new BreatheOut();
        x.keep(0, 1, 2, 3);
        rowOf(x, 1, 0, 1, 2);
        x.image();
        x.keep(0, 1, 7, 5);
        x.put(1, 0, 9);
        x.row(2, 2, 1);
        x.keep(3, 1, 0, 0);
        x.restore();
        due("the kind of now", x.cost(0), 6);
        elements(x, 1, 9, 2);
        elements(x, 2, 0);
        due("the kind of now", x.cost(3), 3);
        x.keep(0, 0, 0, 0);
        x.restore();
        due("nothing now", x.cost(0), -11);
    }
}
