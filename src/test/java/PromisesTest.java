/** Promise by promise: answers worked out by hand from the document, the edges it names, and wrong inputs. */
public final class PromisesTest extends Checks {
    public static void main(String[] args) {
        aNewObject();
        cave();
        yard();
        body();
        laysAndShorter();
        makesChangeSetWaits();
        sizeAndFits();
        way();
        postureLacksWidest();
        go();
        back();
        help();
        order();
        stays();
        calms();
        rescue();
        turns();
        floods();
        haste();
        panic();
        firstWays();
        rockAndForged();
        judge();
        parties();
        image();
        count();
        shelves();
        copy();
        costAndToss();
        end("all promises hold");
    }

    private static void aNewObject() {
        about = "promise 1";
        BreatheOut x = new BreatheOut();
        int[] counts = {0, 0, 0, 1, 15, 120, 0, 0};
        for (int what = 0; what < 8; what++) due("count " + what, x.count(what), counts[what]);
        for (int d = 0; d < 8; d++) due("cost " + d, x.cost(d), -11);
        due("yard", x.yard(0, 0), -1);
        due("body", x.body(0, 0), -1);
        due("go 0", x.go(0), 0);
        due("go 1", x.go(1), -4);
        due("back 3", x.back(3), 0);
    }

    private static void cave() {
        about = "promise 2";
        BreatheOut x = new BreatheOut();
        due("d -1", x.cave(-1), -1);
        due("d 8", x.cave(8), -1);
        due("nothing", x.cave(0), -11);
        x.keep(0, 1, 2, 3);
        due("a kind", x.cave(0), -12);
        x.row(0, 2, 4);
        due("ints", x.cave(0), -12);
        due("empty", tell(x, ""), -1000);
        due("no letter", tell(x, "z"), -1000);
        due("cut off", tell(x, "y002"), -1004);
        due("no ;", tell(x, "r5"), -1002);
        due("one digit too many", tell(x, "r55;"), -1002);
        due("one too few", tell(x, "c5;"), -1002);
        due("second bad", tell(x, "r5;r;"), -1004);
        due("a ; alone", tell(x, "r5;;"), -1003);
        due("a 0 behind", tell(x, "r5;\0"), -1003);
        due("a bad byte is told ahead of a bad statement", tell(x, "c00;q"), -1004);
        due("the end, too", tell(x, "c00;t1"), -1006);
        due("nothing came", x.count(3), 1);
        // An object answers for 512 calls: long rows have one of their own.
        due("a whole row, digits lack", tell(new BreatheOut(), "r1;".repeat(33) + "r"), -1100);
        due("a whole row, a ; lacks", tell(new BreatheOut(), "r1;".repeat(32) + "l000"), -1100);
        due("kind 8", tell(x, "y8020;"), -2000);
        due("width 05", tell(x, "y0005;"), -2000);
        due("width 41", tell(x, "y0041;"), -2000);
        due("chest 09", tell(x, "b09000;"), -2000);
        due("chest 51", tell(x, "b51000;"), -2000);
        due("nobody to pose", tell(x, "p00;"), -2000);
        due("posture 4", tell(x, "b20000;p04;"), -2007);
        due("one twice", tell(x, "b20000;x00;"), -2007);
        due("no such one", tell(x, "b20000;x01;"), -2007);
        due("calm 61", tell(x, "c61;"), -2000);
        due("calm 00", tell(x, "r3;c00;"), -2003);
        due("nothing came", x.count(3) * 100 + x.count(1), 100);
        due("widths 06 and 40", tell(x, "y0006;y7940;"), 2);
        due("all", tell(x, "b10999;b50000;p13;x01;r0;c60;l999;t99;"), 8);
        due("posture", x.body(1, 4), 3);
        due("place", x.body(0, 5), 1);
        due("rise", x.count(3), 0);
        due("calm", x.count(4), 60);
        due("light", x.count(5), 999);
        due("clock", x.count(2), 99);
        due("the row stays", x.element(7, 0), 'b');
        due("last in ORDER", tell(x, "b20000;"), 1);
        due("last in ORDER", x.body(2, 5), 2);
        due("no room for bodies", tell(x, "b20000;b20000;b20000;b20000;"), -2021);
        due("none came", x.count(1), 3);
        for (int i = 0; i < 100; i++) x.waits(99);
        due("clock", x.count(2), 9999);
        due("clock above 9999", tell(x, "t00;t01;"), -2004);
        x = told("y0020;y0020;y0020;y0020;y0020;y0020;y0020;y0020;y0020;y0020;y0020;y0020;");
        due("no room for yards", tell(x, "r2;y0020;"), -2003);
    }

    private static void yard() {
        about = "promise 3";
        // Kinds 0 to 7 with figure 7 and width 20; two hours on, with 3 inches an hour.
        BreatheOut x = told("y0720;y1720;y2720;y3720;y4720;y5720;y6720;y7720;r3;t99;t21;");
        int[] room = {20, 24, 18, 18, 20, 14, 17, 48};
        int[] there = {2, 1, 9, 9, 1, 2, 14, 1};
        int[] back = {2, 1, 9, 9, 5, 2, 14, 1};
        for (int k = 0; k < 8; k++) {
            due("kind", x.yard(k, 0), k);
            due("figure", x.yard(k, 1), 7);
            due("width", x.yard(k, 2), 20);
            due("room of kind " + k, x.yard(k, 3), room[k]);
            due("minutes there of kind " + k, x.yard(k, 4), there[k]);
            due("minutes back of kind " + k, x.yard(k, 5), back[k]);
        }
        x.set(0, 9);
        x.waits(60);
        due("no room is below 0", x.yard(5, 3), 0);
        due("what 6", x.yard(0, 6), -1);
        due("what -1", x.yard(0, -1), -1);
        due("yard 8", x.yard(8, 0), -1);
        due("yard -1", x.yard(-1, 0), -1);
    }

    private static void body() {
        about = "promise 4";
        BreatheOut x = told("b23456;b34567;p12;x01;");
        int[] first = {23, 4, 5, 6, 0, 1};
        int[] second = {34, 5, 6, 7, 2, 0};
        for (int what = 0; what < 6; what++) {
            due("body 0, " + what, x.body(0, what), first[what]);
            due("body 1, " + what, x.body(1, what), second[what]);
        }
        due("what 6", x.body(0, 6), -1);
        due("what -1", x.body(0, -1), -1);
        due("body 2", x.body(2, 0), -1);
        due("body -1", x.body(-1, 0), -1);
    }

    private static void laysAndShorter() {
        about = "promise 5";
        BreatheOut x = new BreatheOut();
        due("no shelf", x.lays(8, 20), -1);
        due("no shelf", x.lays(-1, 20), -1);
        due("width 5 is told ahead", x.lays(0, 5), -1);
        due("width 41", x.lays(0, 41), -1);
        due("nothing", x.lays(0, 20), -11);
        x.row(0, 0, 3);
        due("a row", x.lays(0, 20), -12);
        x.keep(0, 1, 6, 4);
        for (int y = 0; y < 12; y++) due("lays", x.lays(0, y == 0 ? 6 : 40), y);
        due("no room", x.lays(0, 20), -2);
        due("kind", x.yard(11, 0), 6);
        due("figure", x.yard(11, 1), 4);
        due("width", x.yard(0, 2), 6);
        due("the shelf keeps it", x.cost(0), 16);
        about = "promise 6";
        for (int y = 11; y >= 0; y--) due("shorter", x.shorter(), y);
        due("none", x.shorter(), -3);
        due("again", x.lays(0, 20), 0);
    }

    private static void makesChangeSetWaits() {
        about = "promise 7";
        BreatheOut x = told("b23456;b34567;b20000;");
        due("fear", x.makes(0, 0, 9), 5);
        due("posture", x.makes(0, 1, 3), 0);
        due("chest", x.makes(0, 2, 10), 23);
        due("fear", x.body(0, 2), 9);
        due("posture", x.body(0, 4), 3);
        due("chest", x.body(0, 0), 10);
        due("chest 50", x.makes(0, 2, 50), 10);
        due("fear 0", x.makes(0, 0, 0), 9);
        int[][] bad = {{0, 0, 10}, {0, 0, -1}, {0, 1, 4}, {0, 1, -1}, {0, 2, 9}, {0, 2, 51}, {0, 3, 5}, {0, -1, 5}, {3, 0, 5}, {-1, 0, 5}};
        for (int[] b : bad) due("makes " + b[0] + " " + b[1] + " " + b[2], x.makes(b[0], b[1], b[2]), -1);
        due("as it was", x.body(0, 0) + 100 * x.body(0, 2) + 1000 * x.body(0, 4), 3050);
        about = "promise 8";
        due("change", x.change(0, 2), 2);
        due("place", x.body(2, 5), 0);
        due("change", x.change(1, 0), 2);
        due("place", x.body(0, 5), 1);
        due("one twice", x.change(1, 1), -1);
        due("no such", x.change(0, 3), -1);
        due("no such", x.change(-1, 0), -1);
        about = "promise 9";
        due("rise", x.set(0, 9), 1);
        due("rise", x.set(0, 0), 9);
        due("calm", x.set(1, 60), 15);
        due("calm", x.set(1, 1), 60);
        due("light", x.set(2, 999), 120);
        due("light", x.set(2, 0), 999);
        int[][] out = {{0, 10}, {0, -1}, {1, 0}, {1, 61}, {2, 1000}, {2, -1}, {3, 1}, {-1, 1}};
        for (int[] o : out) due("set " + o[0] + " " + o[1], x.set(o[0], o[1]), -1);
        about = "promise 10";
        due("0", x.waits(0), 0);
        due("100", x.waits(100), -1);
        due("-1", x.waits(-1), -1);
        for (int k = 1; k <= 101; k++) due("99", x.waits(99), 99 * k);
        due("above 9999", x.waits(1), -3);
        due("-1 ahead of -3", x.waits(100), -1);
        due("still", x.waits(0), 9999);
    }

    private static void sizeAndFits() {
        about = "promise 11";
        // Yards 0 plain, 1 keyholed, 2 slanting; body: chest 25, out 4, fear 7.
        BreatheOut x = told("y0022;y3325;y4021;b25470;");
        int[][] in = {{26, 27, 26, 27}, {28, 29, 26, 27}, {26, 27, 27, 28}};
        for (int y = 0; y < 3; y++) {
            for (int p = 0; p < 4; p++) {
                due("in, yard " + y + " posture " + p, x.size(0, y, p, 0), in[y][p]);
                due("out, yard " + y + " posture " + p, x.size(0, y, p, 1), in[y][p] - 4);
            }
        }
        int[][] bad = {{1, 0, 0, 0}, {-1, 0, 0, 0}, {0, 3, 0, 0}, {0, -1, 0, 0}, {0, 0, 4, 0}, {0, 0, -1, 0}, {0, 0, 0, 2}, {0, 0, 0, -1}};
        for (int[] b : bad) due("size", x.size(b[0], b[1], b[2], b[3]), -1);
        about = "promise 12";
        due("26 in 22, out 22", x.fits(0, 0), 1);
        due("28 in 24, out 24", x.fits(0, 1), 1);
        due("26 in 21, out 22", x.fits(0, 2), 2);
        x.makes(0, 2, 21);
        due("22 in 22", x.fits(0, 0), 0);
        x.makes(0, 1, 1);
        due("23 in 22", x.fits(0, 0), 1);
        due("no body", x.fits(1, 0), -1);
        due("no yard", x.fits(0, 3), -1);
        x = told("y5020;b20000;r2;t59;");
        due("19 in 20", x.fits(0, 0), 0);
        x.waits(1);
        due("19 in 18", x.fits(0, 0), 2);
    }

    private static void way() {
        about = "promise 13";
        // Out needed at 0 (3 minutes), in at 1 (slanting 1, back 5), flooding 2: 20 less 3 an hour, size 20 out 19.
        BreatheOut x = told("y0019;y4022;y5020;b21100;r3;");
        due("there", x.way(0, 0, 0), -4);
        due("minutes there", x.way(0, 0, 1), 6);
        due("breaths there", x.way(0, 0, 2), 1);
        due("back", x.way(0, 1, 0), -4);
        due("minutes back", x.way(0, 1, 1), 10);
        due("breaths back", x.way(0, 1, 2), 1);
        x.waits(55);
        due("there by minute 59 of the hour", x.way(0, 0, 0), -4);
        x.waits(1);
        due("a minute later the water is there first", x.way(0, 0, 0), 2);
        due("as far as it comes", x.way(0, 0, 1), 4);
        due("breaths so far", x.way(0, 0, 2), 1);
        due("back it is dry", x.way(0, 1, 0), -4);
        x.waits(4);
        due("stuck at once on the way back", x.way(0, 1, 0), 2);
        due("minutes", x.way(0, 1, 1), 0);
        due("the clock stays", x.count(2), 60);
        due("what 3", x.way(0, 0, 3), -1);
        due("what -1", x.way(0, 0, -1), -1);
        due("back 2", x.way(0, 2, 0), -1);
        due("back -1", x.way(0, -1, 0), -1);
        due("no body", x.way(1, 0, 0), -1);
        x = told("b21100;");
        due("no yards", x.way(0, 0, 0), -4);
        due("no yards", x.way(0, 1, 1), 0);
    }

    private static void postureLacksWidest() {
        about = "promise 14";
        // Keyhole of 20: head first with an arm ahead 21, feet first 19.
        BreatheOut x = told("y3020;b20100;");
        due("feet first, without a breath", x.posture(0), 2);
        tell(x, "y4019;");
        due("a breath either way: 0 at the keyhole, 2 at the slant", x.posture(0), 0);
        tell(x, "y4018;");
        due("feet first 20, out 19, is stuck at 18", x.posture(0), 0);
        tell(x, "y0017;");
        due("none", x.posture(0), -4);
        due("its own posture stays", x.body(0, 4), 0);
        // On the way there the flood is met at once, still dry; on the way back it would be met too late.
        BreatheOut y = told("y5020;y2120;b20000;r5;t58;");
        due("there", y.posture(0), 0);
        due("there", y.widest(0), 21);
        due("there", y.calms(0), 0);
        due("no body", x.posture(1), -1);
        due("no body", x.posture(-1), -1);
        about = "promise 15";
        due("19 - 1 in 17", x.lacks(0), 1);
        x.makes(0, 0, 9);
        due("with fear", x.lacks(0), 4);
        x.makes(0, 0, 0);
        x.makes(0, 2, 10);
        due("none lack", x.lacks(0), 0);
        due("no body", x.lacks(1), -1);
        x = told("y5020;y0030;b25400;r5;t99;");
        due("20 in 15", x.lacks(0), 5);
        about = "promise 16";
        due("chest c less 5 in 15", x.widest(0), 20);
        x.set(0, 9);
        due("chest c less 5 in 11", x.widest(0), 16);
        x.waits(99);
        x.makes(0, 0, 9);
        due("chest 10 is 8 in 0", x.widest(0), -4);
        due("its own chest stays", x.body(0, 0), 25);
        due("no body", x.widest(1), -1);
        x = told("b25400;");
        due("no yards", x.widest(0), 50);
        due("no yards", x.lacks(0), 0);
        due("no yards", x.posture(0), 0);
    }

    private static void go() {
        about = "promise 17";
        // Bodies 0 (in 19), 1 (in 21, out 20), 2 (out 22, lacks 2); pulls 6, 3, 0; a yard of 20 and one of 30.
        BreatheOut x = told("y0020;y0030;b20006;b22103;b24100;");
        // 0: 2+2; 1: 3+2, a breath; 2: pulled by 6 / 3 = 2: 12+2.
        due("through", x.go(0), 7);
        due("nobody stuck", x.go(1), -4);
        due("nowhere", x.go(2), -4);
        due("clock", x.go(3), 4 + 5 + 14);
        due("a helped one takes no breath", x.go(4), 1);
        x.makes(2, 2, 25);
        due("through", x.go(0), 3);
        due("stuck", x.go(1), 2);
        due("where", x.go(2), 0);
        due("clock", x.go(3), 9);
        due("breaths", x.go(4), 1);
        x.change(1, 2);
        due("2 is pulled by 2, pushed by 1", x.go(0), 7);
        due("clock", x.go(3), 4 + 14 + 5);
        x.change(0, 2);
        due("2 is first, pushed by 2 alone", x.go(0), 0);
        due("stuck", x.go(1), 2);
        due("clock", x.go(3), 0);
        due("what 5", x.go(5), -1);
        due("what -1", x.go(-1), -1);
        // One stuck at the second yard: the minutes and breaths so far count.
        x = told("y0020;y0019;b21100;b22100;t07;");
        due("through", x.go(0), 1);
        due("where", x.go(2), 1);
        due("clock", x.go(3), 7 + 2 + 3 + 3);
        due("breaths", x.go(4), 2);
        due("the clock stays", x.count(2), 7);
        // Water rises while they go: 0 passes in hour 0, 1 in hour 1.
        x = told("y5020;b20000;b20000;r5;t58;");
        due("through", x.go(0), 1);
        due("stuck", x.go(1), 1);
        due("clock", x.go(3), 60);
    }

    private static void back() {
        about = "promise 18";
        // There: 0 pulled by nobody, pushed by 1; back: 1 first, pushed by 0; then 0, pulled by 1.
        BreatheOut x = told("y0020;y4030;b23000;b20006;");
        due("there", x.go(3), (12 + 1) + (2 + 1));
        due("back", x.back(0), 3);
        due("nobody stuck", x.back(1), -4);
        due("nobody shut in", x.back(2), 0);
        due("clock", x.back(3), 16 + (5 + 2) + (5 + 12));
        // 0 lacks 1, 1 lacks 2. There: 0 is pushed by 9, 1 pulled by 3 and pushed by 6.
        // Back: 1 is pulled by 6 and pushed by 3, 0 is pulled by 9.
        x = told("y0020;b22003;b23009;b20006;b19000;t10;");
        due("there", x.go(0), 15);
        due("clock there", x.go(3), 10 + 12 + 12 + 2 + 2);
        due("back: 3, 2, 1, then 0", x.back(0), 15);
        due("clock", x.back(3), 38 + 2 + 2 + 12 + 12);
        // Order 2, 1, 0, 3: 1 is pulled by 6 and pushed by 3, 0 is pulled by 9; back 0 is pushed by 9, 1 by 6.
        x.change(0, 2);
        due("back", x.back(0), 15);
        // 2 lacks 2: there it is pulled by 6 / 3; back it has 3 beyond and 1 behind, who pull 0.
        x = told("y0020;b20006;b20000;b23000;b20000;");
        due("there", x.go(0), 15);
        due("back", x.back(0), 8);
        due("stuck", x.back(1), 2);
        due("those behind it are shut in", x.back(2), 1 + 2);
        due("clock", x.back(3), 2 + 2 + 12 + 2 + 2);
        // Stuck on the way there: nobody is back, those through are shut in.
        x = told("y0020;b20000;b29000;b20000;t05;");
        due("nobody back", x.back(0), 0);
        due("nobody stuck on the way back", x.back(1), -4);
        due("shut in", x.back(2), 1);
        due("clock of go", x.back(3), 7);
        due("what 4", x.back(4), -1);
        due("what -1", x.back(-1), -1);
        // The way back begins with the last yard: the flood is met first.
        x = told("y0020;y5020;b20000;r5;t58;");
        due("there at 60 the flood is up", x.go(2), 1);
        x = told("y5020;y0020;b20000;r5;t57;");
        due("through", x.go(0), 1);
        due("back by minute 63", x.back(1), 0);
        due("nobody behind it", x.back(2), 0);
        due("clock", x.back(3), 63);
    }

    private static void help() {
        about = "promise 19";
        BreatheOut x = told("b20008;b20005;b20009;b20002;");
        due("first: pushed by 5", x.help(0), 1);
        due("pulled by 8, pushed by 9", x.help(1), 2 + 3);
        due("pulled by 8, pushed by 2", x.help(2), 2);
        due("last: pulled by 9", x.help(3), 3);
        x.change(0, 3);
        due("first of 2, 5, 9, 8: pushed by 5", x.help(3), 1);
        due("thirds are cut apart: 2 and 9", x.help(1), 3);
        due("last", x.help(0), 3);
        due("no body", x.help(4), -1);
        due("no body", x.help(-1), -1);
    }

    private static void order() {
        about = "promise 20";
        // 0 lacks 3: it must have 9 / 3 behind or beyond both ways.
        BreatheOut x = told("y0020;b24000;b20009;");
        due("both", x.order(-1), 2);
        // 0, 1: there 12 + 2, back 2 + 12. 1, 0: there 2 + 12, back 12 + 2. The first by bodies.
        due("first", x.order(0), 0);
        due("second", x.order(1), 1);
        due("none", x.order(2), -4);
        due("none", x.order(Integer.MAX_VALUE), -4);
        due("below -1", x.order(-2), -1);
        due("below -1", x.order(Integer.MIN_VALUE), -1);
        // 0 lacks 2, 1 has pull 3, 2 pull 3: 0 must be between them, or it has 1 alone.
        x = told("y0020;b23000;b20003;b20003;x02;");
        due("all", x.order(-1), 3);
        due("first", x.order(0), 1);
        due("then", x.order(1), 0);
        due("last", x.order(2), 2);
        due("the order stays", x.body(0, 5), 2);
        x.makes(0, 2, 20);
        due("after a change it is found anew", x.order(0), 0);
        // Each call that changes the cave changes what is found: from nobody back to all, or the other way.
        x = told("y0020;b20000;b20000;");
        x.image();
        due("two", x.order(-1), 2);
        tell(x, "b40000;");
        due("nobody", x.order(-1), 0);
        x.restore();
        due("two", x.order(-1), 2);
        x.keep(0, 1, 5, 0);
        x.lays(0, 15);
        due("nobody", x.order(-1), 0);
        x.shorter();
        due("two", x.order(-1), 2);
        x.lays(0, 20);
        due("two", x.order(-1), 2);
        x.waits(99);
        x.waits(21);
        due("nobody", x.order(-1), 0);
        x.set(0, 0);
        due("two", x.order(-1), 2);
        // In a flood from 60 on the larger one gets there first or not at all; it is not back.
        x = told("y5020;b17000;b21000;r2;t58;");
        due("one is back", x.order(-1), 1);
        due("the larger one first", x.order(0), 1);
        due("the smaller one then", x.order(1), 0);
        // Nobody is back in any order: 1 is stuck at minute 2, 0 at minute 3, with a breath.
        x = told("y0030;y0010;b32100;b30000;");
        due("nobody", x.order(-1), 0);
        due("the least clock", x.order(0), 1);
        // Each takes more than an hour, and each hour leaves 4 inches less at the first yard: 5, 4, 3, 2, 1 fit
        // in that order alone, then 0, which the water never stops.
        x = told("y5036;y6940;y6940;y6940;y6940;r4;b10900;b21000;b25000;b29000;b33000;b37000;");
        due("0 alone is back", x.order(-1), 1);
        for (int i = 0; i < 6; i++) due("the last of all orders", x.order(i), 5 - i);
        x = new BreatheOut();
        due("nobody", x.order(-1), 0);
        due("nobody", x.order(0), -4);
    }

    private static void stays() {
        about = "promise 21";
        BreatheOut x = told("y0020;b20000;b29000;b20000;b30000;");
        due("1 and 3", x.stays(), 2 + 8);
        x = told("y0020;b20000;b20000;");
        due("nobody has to", x.stays(), 0);
        // 0 and 2 lack 2 each, and 1 between them pulls 6 / 3.
        x = told("y0020;b23000;b20006;b23000;");
        due("1 is next to both", x.stays(), 0);
        // 0 is pushed by 1, who pulls 0: stuck. Without 0, 1 is pushed by 2, and on the way back pulled by it.
        x = told("y0020;b23000;b23000;b20006;");
        due("0", x.stays(), 1);
        x = told("y0010;b29000;b29000;");
        due("all stay", x.stays(), 3);
        due("the order stays", x.body(1, 5), 1);
        x = new BreatheOut();
        due("nobody", x.stays(), 0);
    }

    private static void calms() {
        about = "promise 22";
        BreatheOut x = told("y0020;b21080;c10;");
        // Size 20 + 8 / 3: fear below 3, so 6 times 10.
        due("calms", x.calms(0), 60);
        x.makes(0, 0, 2);
        due("at once", x.calms(0), 0);
        x.makes(0, 2, 22);
        due("never", x.calms(0), -4);
        due("its fear stays", x.body(0, 2), 2);
        due("no body", x.calms(1), -1);
        due("no body", x.calms(-1), -1);
        // The water does not rise while it calms.
        x = told("y5020;b20030;c60;r5;");
        due("19 + 1 in 20", x.calms(0), 0);
        x.makes(0, 0, 6);
        due("three less", x.calms(0), 60);
    }

    private static void rescue() {
        about = "promise 23";
        // Size 20 + 9 / 3 out, lacks 3 at 20; others pull 4 and 7: pull 2 inches, push 1.
        BreatheOut x = told("y0020;b21090;b20004;b20007;c05;");
        // Haste thrice: fear stays 9, 3 inches: 6 minutes.
        due("three hastes", x.rescue(0, 0, 6, -1), 6);
        for (int i = 0; i < 3; i++) due("haste", x.rescue(0, 0, 6, i), 3);
        due("no fourth", x.rescue(0, 0, 6, 3), -4);
        due("no fourth", x.rescue(0, 0, 6, Integer.MAX_VALUE), -4);
        // Two deeds: pull 2 and haste 1 are 12; wait and pull 2 + 1 less are 15.
        due("two deeds", x.rescue(0, 0, 2, -1), 12);
        due("pull comes first", x.rescue(0, 0, 2, 0), 0);
        due("haste", x.rescue(0, 0, 2, 1), 3);
        due("one deed", x.rescue(0, 0, 1, -1), -4);
        due("no deed", x.rescue(0, 0, 0, -1), -4);
        due("its fear stays", x.body(0, 2), 9);
        // Fear 3, lacks 1: wait is 1 minute, haste 2.
        x = told("y0020;b21030;c01;");
        due("wait", x.rescue(0, 0, 6, -1), 1);
        due("wait", x.rescue(0, 0, 6, 0), 2);
        x.set(1, 2);
        due("as soon by waiting as by haste", x.rescue(0, 0, 6, -1), 2);
        due("the first by deeds", x.rescue(0, 0, 6, 0), 2);
        x.set(1, 3);
        due("haste", x.rescue(0, 0, 6, 0), 3);
        due("not stuck", x.rescue(0, 0, 7, 0), -1);
        due("n -1", x.rescue(0, 0, -1, 0), -1);
        due("i -2", x.rescue(0, 0, 6, -2), -1);
        due("no body", x.rescue(1, 0, 6, 0), -1);
        due("no yard", x.rescue(0, 1, 6, 0), -1);
        x.makes(0, 0, 0);
        due("not stuck", x.rescue(0, 0, 6, -1), -3);
        due("-1 ahead of -3", x.rescue(0, 0, 6, -2), -1);
        // Hastes add fear: lacks 1 with fear 2; one haste makes 1 inch, and fear 3 takes one more.
        x = told("y0020;b22020;b20003;");
        due("two hastes", x.rescue(0, 0, 6, -1), 4);
        due("one deed: a pull", x.rescue(0, 0, 1, -1), 10);
        due("a pull ahead of a push", x.rescue(0, 0, 1, 0), 0);
    }

    private static void turns() {
        about = "promise 24";
        BreatheOut x = told("y0020;b20000;");
        due("120 less 4", x.turns(), 116);
        x.waits(99);
        due("17", x.turns(), 17);
        x.set(2, 102);
        due("too late", x.turns(), -4);
        x.set(2, 103);
        due("just now", x.turns(), 0);
        x.set(2, 999);
        due("600 at most", x.turns(), 600);
        x.makes(0, 2, 30);
        due("never back", x.turns(), -4);
        // 19 in 20 - hour: hours 0 and 1 do; back by minute 119 is entering the way back by 119.
        x = told("y5020;b20000;l999;");
        due("entering back at minute 119", x.turns(), 117);
        x = new BreatheOut();
        x.set(2, 0);
        due("nobody", x.turns(), 0);
    }

    private static void floods() {
        about = "promise 25";
        BreatheOut x = told("y5020;y0020;y0015;b20200;r3;");
        due("17 in 20 - 3 h", x.floods(0, 0), 2);
        due("never", x.floods(0, 1), -4);
        due("from the first", x.floods(0, 2), 0);
        x.waits(99);
        due("hours do not begin now", x.floods(0, 0), 2);
        x.set(0, 0);
        due("no rise", x.floods(0, 0), -4);
        x.set(0, 1);
        due("17 in 16", x.floods(0, 0), 4);
        due("no body", x.floods(1, 0), -1);
        due("no yard", x.floods(0, 3), -1);
        due("no yard", x.floods(0, -1), -1);
        x = told("y5006;y3020;y4020;b10900;b19000;r9;");
        due("0 in 0", x.floods(0, 0), -4);
        due("20 in 20, head first", x.floods(1, 1), -4);
        x.makes(1, 1, 1);
        due("21 in 20", x.floods(1, 1), 0);
        x.makes(1, 1, 3);
        due("20 in 20, feet first", x.floods(1, 2), -4);
        x.makes(1, 2, 20);
        due("21 in 20, feet first", x.floods(1, 2), 0);
    }

    private static void haste() {
        about = "promise 26";
        BreatheOut x = told("y0020;b20390;b19000;");
        // Fear 9: 22, out 19: a breath each way.
        due("two breaths", x.haste(), 2);
        x.makes(0, 0, 0);
        due("none", x.haste(), 0);
        x.makes(0, 2, 24);
        x.makes(0, 0, 9);
        // Stuck at once with fear (clock 0); without, 3 + 2 there, 2 + 3 back.
        due("not below 0", x.haste(), 0);
        x = told("y0020;y0022;b20330;t30;");
        due("19 + 1 in 20: none", x.haste(), 0);
        x.makes(0, 2, 21);
        x.makes(0, 0, 9);
        due("23, out 20: a breath each way at both", x.haste(), 4);
        due("fear stays", x.body(0, 2), 9);
        due("nobody", new BreatheOut().haste(), 0);
    }

    private static void panic() {
        about = "promise 27";
        // In panic one is stuck: by 5 tenths, 2 tenths: 5 * 8 of 100.
        BreatheOut x = told("y0021;b20050;b20020;");
        due("2 of 5", x.panic(0), 2);
        due("2 of 5", x.panic(1), 5);
        x.makes(0, 0, 0);
        due("4 of 5", x.panic(0), 4);
        due("4 of 5", x.panic(1), 5);
        x.makes(1, 0, 0);
        due("surely", x.panic(0), 1);
        due("surely", x.panic(1), 1);
        x.makes(1, 0, 9);
        due("never", x.panic(0), 0);
        due("never", x.panic(1), 1);
        due("part 2", x.panic(2), -1000000001L);
        due("part -1", x.panic(-1), -1000000001L);
        due("fear stays", x.body(1, 2), 9);
        x = told("y0021;b20010;b20010;b20010;b20010;b20010;b20010;");
        due("9 to the sixth", x.panic(0), 531441);
        due("10 to the sixth", x.panic(1), 1000000);
        // In panic each has 22 inches, as many as there are.
        x = told("y0022;b20010;b20090;");
        due("nobody is ever stuck", x.panic(0), 1);
        x = told("y0020;y0019;b19010;b10090;");
        due("9 of 10", x.panic(0), 9);
        due("9 of 10", x.panic(1), 10);
    }

    private static void firstWays() {
        about = "promise 28";
        // A keyhole of 20: 21 of chest is 22 head first, 20 feet first with an arm ahead.
        BreatheOut x = told("y3020;b21000;b19000;");
        due("0 feet first, 1 as it is", x.firstWays(), 20);
        x.change(0, 1);
        due("digits by bodies, not by order", x.firstWays(), 20);
        tell(x, "b19000;b21000;");
        due("four", x.firstWays(), 2002);
        tell(x, "b19000;");
        due("five", x.firstWays(), -3);
        x = told("y0010;b30000;b10000;x01;");
        due("nobody can be back", x.firstWays(), 0);
        due("the posture stays", x.body(0, 4), 0);
        due("nobody", new BreatheOut().firstWays(), 0);
    }

    private static void rockAndForged() {
        // The body: chest c, out 3, an arm ahead: in c - 1, out c - 4. Yards of 20, 24, 22.
        BreatheOut x = told("y0020;y0024;y0022;b30300;");
        about = "promise 29";
        rowOf(x, 0, 0, 1, 0, 0);
        // Breathed out at 20: 22 .. 24; in at 24: to 25; in at 22: to 23.
        due("22, 23", x.rock(0, 0, 0), 2);
        due("22", x.rock(0, 0, 1), 22);
        rowOf(x, 0, 1, 2, -32768, 0);
        due("stuck at 20, in at 22: none", x.rock(0, 0, 0), 0);
        due("none", x.rock(0, 0, 1), -4);
        about = "promise 30";
        due("the third tells it", x.forged(0, 0), 2);
        rowOf(x, 0, 2, 3, 0, 0);
        due("no such answer", x.forged(0, 0), 0);
        rowOf(x, 0, 2, Integer.MIN_VALUE, -128, 0);
        due("the least of another sort is not skipped", x.forged(0, 0), 1);
        rowOf(x, 0, 0, -128, 2);
        due("stuck at 24", x.forged(0, 0), -4);
        about = "promise 29";
        due("from 29", x.rock(0, 0, 1), 29);
        due("29 .. 50", x.rock(0, 0, 0), 22);
        x.row(0, 0, 0);
        due("told nothing", x.rock(0, 0, 0), 41);
        due("told nothing", x.rock(0, 0, 1), 10);
        due("its chest stays", x.body(0, 0), 30);
        x.keep(1, 1, 0, 0);
        x.row(2, 0, 4);
        due("no body", x.rock(1, 0, 0), -1);
        due("no shelf", x.rock(0, 8, 0), -1);
        due("what 2", x.rock(0, 0, 2), -1);
        due("what -1", x.rock(0, 0, -1), -1);
        due("nothing", x.rock(0, 3, 0), -11);
        due("a kind", x.rock(0, 1, 0), -12);
        due("more than yards", x.rock(0, 2, 0), -13);
        about = "promise 30";
        due("told nothing", x.forged(0, 0), -4);
        due("no body", x.forged(-1, 0), -1);
        due("no shelf", x.forged(0, -1), -1);
        due("nothing", x.forged(0, 3), -11);
        due("a kind", x.forged(0, 1), -12);
        due("more than yards", x.forged(0, 2), -13);
        x = told("y0020;b30300;");
        x.keep(1, 1, 0, 0);
        x.lays(1, 24);
        rowOf(x, 0, 0, 0, 2);
        due("by the yards as they are: in at 20, stuck at 24", x.forged(0, 0), 1);
        about = "promise 29";
        x = told("y5020;b20000;r5;t60;");
        rowOf(x, 0, 0, 2);
        due("the hour is now: 15 inches, stuck from 17", x.rock(0, 0, 1), 17);
    }

    private static void judge() {
        about = "promise 31";
        // Order 1, 0: 1 is through at 2, 0 breathes out: 2 + 3.
        BreatheOut x = told("y0020;b22100;b20000;x01;t30;");
        rowOf(x, 0, 0, 2, 5);
        due("so", x.judge(0), -4);
        rowOf(x, 0, 0, 2);
        due("as far as told", x.judge(0), -4);
        rowOf(x, 0, 1, 2, 6);
        due("not so", x.judge(0), 1);
        rowOf(x, 0, 2, 5, 5);
        due("the first", x.judge(0), 0);
        rowOf(x, 0, 2, 2, 5, 5);
        due("behind all", x.judge(0), 2);
        rowOf(x, 0, 2, Integer.MIN_VALUE, 5, Integer.MIN_VALUE);
        due("skipped", x.judge(0), -4);
        x.makes(0, 2, 30);
        due("stuck: 1 alone is through", x.judge(0), 1);
        x.row(0, 0, 0);
        due("told nothing", x.judge(0), -4);
        x.keep(0, 1, 0, 0);
        due("a kind", x.judge(0), -12);
        due("nothing", x.judge(1), -11);
        due("no shelf", x.judge(8), -1);
        due("no shelf", x.judge(-1), -1);
    }

    private static void parties() {
        about = "promise 32";
        // z 0: 12345 -> 0; then 12345 * 1103515245 + 12345 = -740551042 -> 1406932606 / 65536 = 21468 -> 8.
        BreatheOut x = told("y0021;b20090;");
        due("fear 0: through", x.parties(1, 0, 0), 1);
        due("fear 0: back", x.parties(1, 0, 1), 1);
        // Fears 0 and 8: the second has 19 + 2 inches, as many as there are.
        due("two", x.parties(2, 0, 0), 2);
        x.makes(0, 2, 21);
        due("one of two", x.parties(2, 0, 0), 1);
        x = told("y0020;b21000;b20000;");
        // One party of fears 0 and 8: 0 through, 1 with 21 in 20 stuck: nobody is back.
        due("through", x.parties(1, 0, 0), 1);
        due("back", x.parties(1, 0, 1), 0);
        due("n 0", x.parties(0, 0, 0), -1);
        due("n 21", x.parties(21, 0, 0), -1);
        due("what 2", x.parties(1, 0, 2), -1);
        due("what -1", x.parties(1, 0, -1), -1);
        due("fear stays", x.body(0, 2), 0);
        due("nobody", new BreatheOut().parties(20, 5, 0), 0);
        due("all of 20", told("b20000;b20000;").parties(20, -5, 1), 40);
        // The fears of the first ten draws of seed 1, worked out by the rule with long division below.
        int z = 1;
        int through = 0;
        for (int k = 0; k < 20; k++) {
            z = (int) ((long) z * 1103515245L + 12345L);
            long unsigned = z < 0 ? z + 2147483648L : z;
            long fear = unsigned / 65536L % 10L;
            if (20 + fear / 3 <= 21) through++;
        }
        due("by draws", told("y0021;b21000;").parties(20, 1, 0), through);
    }

    private static void image() {
        about = "promise 34";
        BreatheOut x = told("y2520;b20111;b21222;p01;x01;r4;c20;l300;t40;");
        due("none", x.restore(), -3);
        about = "promise 33";
        due("image", x.image(), 40);
        tell(x, "y0030;b30000;p03;x02;r9;c09;l009;t09;");
        x.makes(0, 0, 9);
        x.makes(1, 2, 40);
        x.row(3, 0, 2);
        about = "promise 34";
        due("clock", x.restore(), 40);
        int[] counts = {1, 2, 40, 4, 20, 300, 20, 41};
        for (int what = 0; what < 8; what++) due("count " + what, x.count(what), counts[what]);
        due("posture", x.body(0, 4), 1);
        due("fear", x.body(0, 2), 1);
        due("place", x.body(0, 5), 1);
        due("shelves stay", x.put(3, 1, 5), 0);
        x.shorter();
        x.waits(9);
        due("and again", x.restore(), 40);
        due("yards", x.yard(0, 1), 5);
    }

    private static void count() {
        about = "promise 35";
        BreatheOut x = told("y0020;y0030;y0040;b20000;b25000;r3;c33;l345;t44;");
        int[] counts = {3, 2, 44, 3, 33, 345, 90, 45};
        for (int what = 0; what < 8; what++) due("count " + what, x.count(what), counts[what]);
        due("8", x.count(8), -1);
        due("-1", x.count(-1), -1);
        x.shorter();
        due("widths", x.count(6), 50);
    }

    private static void shelves() {
        BreatheOut x = new BreatheOut();
        about = "promise 36";
        due("kind", x.keep(0, 1, 7, 9), 0);
        int[][] bad = {{8, 0, 0, 0}, {-1, 0, 0, 0}, {0, 2, 0, 0}, {0, -1, 0, 0}, {0, 1, 8, 0}, {0, 1, -1, 0}, {0, 1, 0, 10}, {0, 1, 0, -1}};
        for (int[] b : bad) due("keep", x.keep(b[0], b[1], b[2], b[3]), -1);
        due("it stays", x.cost(0), 10);
        due("nothing, whatever else", x.keep(0, 0, 99, -99), 0);
        due("nothing", x.cost(0), -11);
        about = "promise 37";
        due("row", x.row(0, 0, 100), 0);
        due("101", x.row(0, 0, 101), -1);
        due("-1", x.row(0, 0, -1), -14);
        due("sort 3", x.row(0, 3, -1), -1);
        due("sort -1", x.row(0, -1, 1), -1);
        due("shelf 8", x.row(8, 0, -1), -1);
        due("it stays", x.put(0, 99, 7), 0);
        due("anew", x.row(0, 0, 100), 0);
        due("0 at first", x.element(0, 99), 0);
        due("none", x.row(0, 0, 0), 0);
        about = "promise 38";
        due("no place", x.put(0, 0, 1), -13);
        rowOf(x, 0, 0, 200, -129, 256, 127);
        rowOf(x, 1, 1, 40000, -32769, 65536, 200);
        rowOf(x, 2, 2, Integer.MAX_VALUE, Integer.MIN_VALUE, 65536, 200);
        about = "promise 39";
        long[][] kept = {{-56, 127, 0, 127}, {-25536, 32767, 0, 200}, {2147483647L, -2147483648L, 65536, 200}};
        for (int d = 0; d < 3; d++) for (int i = 0; i < 4; i++) due("element " + d + " " + i, x.element(d, i), kept[d][i]);
        x.keep(3, 1, 0, 0);
        about = "promise 38";
        due("place 4", x.put(0, 4, 1), -13);
        due("place -1", x.put(0, -1, 1), -13);
        due("shelf 8", x.put(8, 0, 1), -1);
        due("shelf -1", x.put(-1, 0, 1), -1);
        due("nothing", x.put(4, 0, 1), -11);
        due("a kind", x.put(3, 0, 1), -12);
        about = "promise 39";
        due("shelf 8", thrown(x, 8, 0), 1);
        due("shelf -1", thrown(x, -1, -1), 1);
        due("nothing", thrown(x, 4, 0), 2);
        due("a kind", thrown(x, 3, 0), 2);
        due("place 4", thrown(x, 0, 4), 2);
        due("place -1", thrown(x, 0, -1), 2);
        due("place 3", thrown(x, 0, 3), 0);
    }

    private static void copy() {
        about = "promise 40";
        BreatheOut x = new BreatheOut();
        rowOf(x, 0, 1, 1, 2, 3, 4, 5);
        rowOf(x, 1, 1, 9, 9, 9);
        rowOf(x, 2, 2, 7, 7, 7);
        x.keep(3, 1, 0, 0);
        due("copy", x.copy(0, 2, 1, 1, 2), 2);
        long[] kept = {9, 3, 4};
        for (int i = 0; i < 3; i++) due("element " + i, x.element(1, i), kept[i]);
        due("onto itself", x.copy(0, 0, 0, 1, 4), 4);
        long[] moved = {1, 1, 2, 3, 4};
        for (int i = 0; i < 5; i++) due("moved " + i, x.element(0, i), moved[i]);
        due("none at the end", x.copy(0, 5, 1, 3, 0), 0);
        due("shelf 8", x.copy(8, 0, 4, 0, 1), -1);
        due("shelf -1", x.copy(0, 0, -1, 0, 1), -1);
        due("nothing there", x.copy(0, 0, 4, 0, 1), -11);
        due("nothing there, ahead of a kind", x.copy(3, 0, 4, 0, 1), -11);
        due("nothing here", x.copy(4, 0, 0, 0, 1), -11);
        due("a kind", x.copy(0, 0, 3, 0, 1), -12);
        due("a kind", x.copy(3, 0, 0, 0, 1), -12);
        due("another sort", x.copy(0, 0, 2, 0, -1), -12);
        int[][] bad = {{0, 0, -1}, {-1, 0, 1}, {0, -1, 1}, {3, 0, 3}, {0, 1, 3}, {6, 0, 0}, {0, 4, 0},
            {Integer.MAX_VALUE, 0, 1}, {1, 1, Integer.MAX_VALUE}, {0, Integer.MAX_VALUE, Integer.MAX_VALUE}};
        for (int[] b : bad) due("copy " + b[0] + " " + b[1] + " " + b[2], x.copy(0, b[0], 1, b[1], b[2]), -13);
    }

    private static void costAndToss() {
        BreatheOut x = new BreatheOut();
        int[] costs = {3, 1, 8, 16, 9, 4, 17, 6};
        int[] tosses = {5, 5, 105, 105, 5, 5, 217, -15};
        for (int k = 0; k < 8; k++) {
            about = "promise 41";
            x.keep(0, 1, k, 5);
            due("cost of kind " + k, x.cost(0), costs[k]);
            about = "promise 42";
            due("toss of kind " + k, x.toss(0), tosses[k]);
            x.keep(0, 1, k, 0);
            due("figure 0 of kind " + k, x.toss(0), -15);
        }
        x.row(0, 0, 1);
        about = "promise 41";
        due("a row", x.cost(0), -12);
        due("nothing", x.cost(1), -11);
        due("shelf 8", x.cost(8), -1);
        due("shelf -1", x.cost(-1), -1);
        about = "promise 42";
        due("a row", x.toss(0), -12);
        due("nothing", x.toss(1), -11);
        due("shelf 8", x.toss(8), -1);
        due("shelf -1", x.toss(-1), -1);
    }
}
