/** THE TEXT of a CAVE: what can stand at each place, the two kinds of FAULT, and the ranges of each STATEMENT. */
public final class TextEdgesTest extends Checks {
    /** One of each STATEMENT, right where there are two BODIES. */
    private static final String[] STATEMENTS = {"y0020;", "b20000;", "p00;", "x01;", "r1;", "c15;", "l120;", "t10;"};

    public static void main(String[] args) {
        oneStatementAtLeast();
        whereTextsEnd();
        everyByteAtEveryPlace();
        lettersAreTheseAlone();
        kindOneIsAheadOfKindTwo();
        wholeRows();
        yards();
        bodies();
        postures();
        places();
        settings();
        minutes();
        eachOnWhatThoseAheadMade();
        theFirstFaultIsTold();
        allOfItOrNothing();
        theRowStays();
        end("all texts are read as due");
    }

    private static BreatheOut two() {
        return told("b20000;b21111;");
    }

    private static void read(String text, long want) {
        due("\"" + text + "\"", tell(two(), text), want);
    }

    /** The bytes of a text, the one at a place put by its number. */
    private static int readWith(String text, int place, int number) {
        BreatheOut x = two();
        rowOf(x, 7, 0, text);
        x.put(7, place, number);
        return x.cave(7);
    }

    private static void oneStatementAtLeast() {
        about = "one at least";
        read("", -1000);
        read(";", -1000);
        for (String s : STATEMENTS) read(s, 1);
        for (String s : STATEMENTS) for (String t : STATEMENTS) read(s + t, 2);
    }

    private static void whereTextsEnd() {
        about = "the end, if something lacks";
        for (String s : STATEMENTS) {
            for (int n = 0; n < s.length(); n++) {
                read(s.substring(0, n), -1000 - n);
                if (n > 0) read("r1;" + s.substring(0, n), -1003 - n);
                if (n > 0) read("l000;t00;" + s.substring(0, n), -1009 - n);
            }
        }
    }

    private static void everyByteAtEveryPlace() {
        about = "the first byte with which no CAVE can go on";
        for (String s : STATEMENTS) {
            for (int place = 1; place < s.length(); place++) {
                for (int v = -128; v < 128; v++) {
                    boolean right = place == s.length() - 1 ? v == ';' : v >= '0' && v <= '9';
                    String call = s + " with byte " + v + " at " + place;
                    if (right) {
                        due(call + " can go on", readWith(s, place, v) <= -2000 || readWith(s, place, v) == 1 ? 1 : 0, 1);
                    } else {
                        due(call, readWith(s, place, v), -1000 - place);
                        due("r1;" + call, readWith("r1;" + s, place + 3, v), -1003 - place);
                    }
                }
            }
        }
        due("the lowest bits of 256 more are a digit", readWith("r1;", 1, 256 + '2'), 1);
    }

    private static void lettersAreTheseAlone() {
        about = "STATEMENTS";
        for (int v = -128; v < 128; v++) {
            int digits = -1;
            for (String s : STATEMENTS) if (s.charAt(0) == v) digits = s.length() - 2;
            due("letter " + v, readWith("?", 0, v), digits < 0 ? -1000 : -1001);
            due("letter " + v + " behind", readWith("t00;?", 4, v), digits < 0 ? -1004 : -1005);
            for (int n = 0; digits >= 0 && n < 8; n++) {
                int got = readWith("?" + "1".repeat(n) + ";", 0, v);
                due("letter " + v + " with " + n + " digits", got <= -2000 || got == 1 ? 0 : got, n == digits ? 0 : -1001 - Math.min(n, digits));
            }
        }
    }

    private static void kindOneIsAheadOfKindTwo() {
        about = "kind 1, else kind 2";
        read("c00;q", -1004);
        read("c00;", -2000);
        read("q;c00;", -1000);
        read("y9999;b99999;p99;x99;c99;l99", -1028);
        read("y9999;b99999;p99;x99;c99;l999", -1029);
        read("y9999;b99999;p99;x99;c99;l999;", -2000);
    }

    private static void wholeRows() {
        about = "a ROW of 100 bytes";
        String full = "r2;".repeat(32) + "p00;";
        due("a hundred bytes", full.length(), 100);
        read(full, 33);
        read("r2;".repeat(33) + ";", -1099);
        read("r2;".repeat(33) + "r", -1100);
        read("r2;".repeat(32) + "l120", -1100);
        read("r2;".repeat(32) + "p03:", -1099);
        read("r2;".repeat(32) + "p04;", -2096);
    }

    private static void yards() {
        about = "\"y\" KIND, FIGURE, WIDTH";
        for (int kind = 0; kind < 10; kind++) read("y" + kind + "020;", kind < 8 ? 1 : -2000);
        for (int figure = 0; figure < 10; figure++) read("y0" + figure + "20;", 1);
        for (int width = 0; width < 100; width++) read("y00" + width / 10 + width % 10 + ";", width >= 6 && width <= 40 ? 1 : -2000);
        BreatheOut x = told("y7906;y0040;");
        due("kind", x.yard(0, 0), 7);
        due("figure", x.yard(0, 1), 9);
        due("width", x.yard(0, 2), 6);
        due("kind", x.yard(1, 0), 0);
        due("figure", x.yard(1, 1), 0);
        due("width", x.yard(1, 2), 40);
        read("y0020;".repeat(12), 12);
        read("y0020;".repeat(13), -2072);
        x = told("y0020;".repeat(11));
        due("two where there is room for one", tell(x, "y0021;y0022;"), -2006);
        due("none came", x.count(0), 11);
        due("the twelfth", tell(x, "y0021;"), 1);
        due("no room", tell(x, "y0021;"), -2000);
        x.shorter();
        due("room again", tell(x, "y0022;"), 1);
        due("the last", x.yard(11, 2), 22);
    }

    private static void bodies() {
        about = "\"b\" CHEST, OUT, FEAR, PULL";
        for (int chest = 0; chest < 100; chest++) read("b" + chest / 10 + chest % 10 + "000;", chest >= 10 && chest <= 50 ? 1 : -2000);
        BreatheOut x = told("b10000;b50999;");
        int[][] traits = {{10, 0, 0, 0, 0, 0}, {50, 9, 9, 9, 0, 1}};
        for (int b = 0; b < 2; b++) for (int what = 0; what < 6; what++) due("body " + b + ", " + what, x.body(b, what), traits[b][what]);
        due("OUT, FEAR, PULL in this order", tell(x, "b23456;"), 1);
        for (int what = 0; what < 4; what++) due("what " + what, x.body(2, what), new int[] {23, 4, 5, 6}[what]);
        read("b20000;".repeat(4), 4);
        read("b20000;".repeat(5), -2028);
        due("six", tell(new BreatheOut(), "b20000;".repeat(6)), 6);
        due("seven", tell(new BreatheOut(), "b20000;".repeat(7)), -2042);
        x = told("b20000;b20000;b20000;b20000;b20000;x04;");
        due("the sixth", tell(x, "b30000;"), 1);
        due("last in ORDER", x.body(5, 5), 5);
        due("no room", tell(x, "b30000;"), -2000);
        due("a chest out of its range, and no room", tell(x, "b09000;"), -2000);
    }

    private static void postures() {
        about = "\"p\" a BODY, POSTURE";
        for (int b = 0; b < 10; b++) for (int p = 0; p < 10; p++) read("p" + b + p + ";", b < 2 && p < 4 ? 1 : -2000);
        BreatheOut x = two();
        due("no BODIES", tell(new BreatheOut(), "p00;"), -2000);
        for (int p = 3; p >= 0; p--) {
            due("told", tell(x, "p1" + p + ";"), 1);
            due("posture", x.body(1, 4), p);
            due("not the other's", x.body(0, 4), 0);
        }
        due("the last of six", tell(told("b20000;".repeat(6)), "p53;"), 1);
        due("behind the last of six", tell(told("b20000;".repeat(6)), "p60;"), -2000);
    }

    private static void places() {
        about = "\"x\" two BODIES";
        for (int a = 0; a < 10; a++) for (int b = 0; b < 10; b++) read("x" + a + b + ";", a < 2 && b < 2 && a != b ? 1 : -2000);
        BreatheOut x = told("b20000;b20000;b20000;b20000;b20000;b20000;x05;");
        int[] places = {5, 1, 2, 3, 4, 0};
        for (int b = 0; b < 6; b++) due("place of " + b, x.body(b, 5), places[b]);
        due("back", tell(x, "x50;"), 1);
        for (int b = 0; b < 6; b++) due("place of " + b, x.body(b, 5), b);
        due("nobody", tell(new BreatheOut(), "x01;"), -2000);
    }

    private static void settings() {
        about = "\"r\" RISE";
        BreatheOut x = new BreatheOut();
        for (int rise = 0; rise < 10; rise++) {
            due("told", tell(x, "r" + rise + ";"), 1);
            due("RISE", x.count(3), rise);
        }
        about = "\"c\" CALM";
        for (int calm = 0; calm < 100; calm++) {
            x = new BreatheOut();
            boolean right = calm >= 1 && calm <= 60;
            due("c " + calm, tell(x, "c" + calm / 10 + calm % 10 + ";"), right ? 1 : -2000);
            due("CALM", x.count(4), right ? calm : 15);
        }
        about = "\"l\" LIGHT";
        x = new BreatheOut();
        String[] lights = {"000", "001", "010", "100", "998", "999"};
        for (String light : lights) {
            due("told", tell(x, "l" + light + ";"), 1);
            due("LIGHT", x.count(5), Integer.parseInt(light));
        }
    }

    private static void minutes() {
        about = "\"t\" MINUTES";
        BreatheOut x = new BreatheOut();
        due("00", tell(x, "t00;"), 1);
        due("CLOCK", x.count(2), 0);
        due("99", tell(x, "t99;"), 1);
        due("CLOCK", x.count(2), 99);
        due("so much more, each", tell(x, "t01;t10;"), 2);
        due("CLOCK", x.count(2), 110);
        for (int k = 0; k < 99; k++) x.waits(99);
        x.waits(86);
        due("CLOCK", x.count(2), 9997);
        due("10000", tell(x, "t03;"), -2000);
        due("99 more", tell(x, "t99;"), -2000);
        due("10000 by two", tell(x, "t01;t02;"), -2004);
        due("none of it came", x.count(2), 9997);
        due("9999", tell(x, "t02;"), 1);
        due("CLOCK", x.count(2), 9999);
        due("10000", tell(x, "t01;"), -2000);
        due("none", tell(x, "t00;t00;"), 2);
        due("CLOCK", x.count(2), 9999);
    }

    private static void eachOnWhatThoseAheadMade() {
        about = "each on what those ahead of it made";
        read("p21;b20000;", -2000);
        read("b20000;p21;", 2);
        read("x02;b20000;", -2000);
        read("b20000;x02;", 2);
        read("b20000;x02;x02;x20;", 4);
        BreatheOut x = told("b20000;b21000;b22000;x01;x12;");
        // 0 1 2, then 1 0 2, then 2 0 1.
        int[] places = {1, 2, 0};
        for (int b = 0; b < 3; b++) due("place of " + b, x.body(b, 5), places[b]);
        x = told("r3;r4;c20;c21;l300;l301;b20000;p03;p02;");
        due("the later one stands", x.count(3), 4);
        due("the later one stands", x.count(4), 21);
        due("the later one stands", x.count(5), 301);
        due("the later one stands", x.body(0, 4), 2);
    }

    private static void theFirstFaultIsTold() {
        about = "the first STATEMENT that is not as it must be";
        for (String bad : new String[] {"y8020;", "y0005;", "b51000;", "p20;", "p04;", "x02;", "x00;", "c00;", "c61;"}) {
            read(bad + "c00;", -2000);
            read("r3;" + bad + "c00;", -2003);
            read("l300;t99;" + bad + bad, -2009);
            read("r3;l300;" + bad + "r2;", -2008);
        }
    }

    private static void allOfItOrNothing() {
        about = "without FAULT all of it comes, with one nothing";
        String text = "y3440;b30987;p23;x02;r7;c33;l444;t55;";
        for (String bad : new String[] {"", "q", "r", "c00;", "p30;", "x33;"}) {
            BreatheOut x = two();
            boolean comes = bad.isEmpty();
            int got = tell(x, text + bad);
            due(bad, got, comes ? 8 : bad.equals("q") ? -1037 : bad.equals("r") ? -1038 : -2037);
            int[] counts = comes ? new int[] {1, 3, 55, 7, 33, 444, 40, 71} : new int[] {0, 2, 0, 1, 15, 120, 0, 41};
            for (int what = 0; what < 8; what++) due(bad + " count " + what, x.count(what), counts[what]);
            due(bad + " place", x.body(0, 5), comes ? 2 : 0);
            due(bad + " posture", x.body(2, 4), comes ? 3 : -1);
            due(bad + " room", x.yard(0, 3), comes ? 39 : -1);
        }
    }

    private static void theRowStays() {
        about = "the ROW of a text stays there";
        for (String text : new String[] {"r7;t01;", "r7;c00;", "r7;c0"}) {
            BreatheOut x = two();
            int first = tell(x, text);
            for (int i = 0; i < text.length(); i++) due("byte " + i, x.element(7, i), text.charAt(i));
            due("no more", thrown(x, 7, text.length()), 2);
            due("told again", x.cave(7), first);
        }
    }
}
