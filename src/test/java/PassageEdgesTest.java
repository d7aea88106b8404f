/** Part I of the Terms: sentence by sentence the edges of YARDS, BODIES, FITTING, GO and COME BACK, worked out by hand. */
public final class PassageEdgesTest extends Checks {
    /** A third, cut, of 0 .. 9. */
    private static final int[] THIRD = {0, 0, 0, 1, 1, 1, 2, 2, 2, 3};

    public static void main(String[] args) {
        aNewObject();
        twelveYards();
        rooms();
        roomsAreNotBelowNothing();
        hours();
        more();
        minutes();
        sixBodies();
        sizes();
        fits();
        breaths();
        help();
        helpIsAsMuchAsLacks();
        helped();
        thoseBeyond();
        goThere();
        goAtTheHour();
        comeBack();
        comeBackAtTheHour();
        comeBackUnlessStuck();
        clocksBeyondTheLast();
        settings();
        orders();
        end("the edges of part I hold");
    }

    private static BreatheOut with(String text, int waited) {
        BreatheOut x = told(text);
        for (int rest = waited; rest > 0; rest -= 99) x.waits(Math.min(99, rest));
        return x;
    }

    private static void go(String call, BreatheOut x, int... due) {
        for (int what = 0; what < 5; what++) due(call + ": go " + what, x.go(what), due[what]);
    }

    private static void back(String call, BreatheOut x, int... due) {
        for (int what = 0; what < 4; what++) due(call + ": back " + what, x.back(what), due[what]);
    }

    private static void aNewObject() {
        about = "no YARDS, nobody; at first";
        BreatheOut x = new BreatheOut();
        int[] counts = {0, 0, 0, 1, 15, 120, 0, 0};
        for (int what = 0; what < 8; what++) due("count " + what, x.count(what), counts[what]);
        go("nobody", x, 0, -4, -4, 0, 0);
        back("nobody", x, 0, -4, 0, 0);
        due("no image", x.restore(), -3);
        for (int d = 0; d < 8; d++) due("shelf " + d, x.cost(d), -11);
        tell(x, "b20000;b20000;");
        due("POSTURE at first", x.body(0, 4) + x.body(1, 4), 0);
        due("as they came", x.body(0, 5) * 10 + x.body(1, 5), 1);
    }

    private static void twelveYards() {
        about = "YARDS 0 .. as they come (12 at most)";
        BreatheOut x = new BreatheOut();
        x.keep(0, 1, 0, 0);
        for (int y = 0; y < 12; y++) {
            due("laid", x.lays(0, 20 + y), y);
            due("how many", x.count(0), y + 1);
            due("the last there is", x.yard(y, 2), 20 + y);
            due("none behind it", x.yard(y + 1, 2), -1);
        }
        due("a thirteenth", x.lays(0, 20), -2);
        due("all WIDTHS", x.count(6), 12 * 20 + 66);
        due("shorter", x.shorter(), 11);
        due("the last is no more", x.yard(11, 2), -1);
        due("room again", x.lays(0, 40), 11);
        due("the new one", x.yard(11, 2), 40);
        due("no room again", x.lays(0, 40), -2);
        for (int y = 11; y >= 0; y--) due("shorter", x.shorter(), y);
        due("none", x.shorter(), -3);
        due("the first again", x.lays(0, 6), 0);
    }

    /** YARDS of all eight KINDS with a FIGURE and a WIDTH. */
    private static BreatheOut kinds(int figure, int width) {
        BreatheOut x = new BreatheOut();
        for (int k = 0; k < 8; k++) {
            x.keep(0, 1, k, figure);
            due("laid", x.lays(0, width), k);
        }
        return x;
    }

    private static void rooms() {
        about = "ROOM";
        for (int f = 0; f < 10; f++) {
            BreatheOut x = kinds(f, 20);
            int[] room = {20, 24, 20 - THIRD[f], 20 - THIRD[f], 20, 20, 19 - THIRD[f], 48};
            for (int k = 0; k < 8; k++) {
                due("kind " + k, x.yard(k, 0), k);
                due("figure", x.yard(k, 1), f);
                due("room of kind " + k + ", figure " + f, x.yard(k, 3), room[k]);
            }
        }
        BreatheOut narrow = kinds(9, 6);
        BreatheOut wide = kinds(9, 40);
        int[] least = {6, 10, 3, 3, 6, 6, 2, 20};
        int[] most = {40, 44, 37, 37, 40, 40, 36, 88};
        for (int k = 0; k < 8; k++) {
            due("least room of kind " + k, narrow.yard(k, 3), least[k]);
            due("most room of kind " + k, wide.yard(k, 3), most[k]);
        }
    }

    private static void roomsAreNotBelowNothing() {
        about = "0 at least each";
        BreatheOut x = told("y5006;y5007;r6;b10900;p01;");
        int[][] rooms = {{6, 7}, {0, 1}, {0, 0}, {0, 0}};
        for (int hour = 0; hour < 4; hour++) {
            due("room at hour " + hour, x.yard(0, 3), rooms[hour][0]);
            due("room at hour " + hour, x.yard(1, 3), rooms[hour][1]);
            if (hour > 0) {
                due("SIZE 1 in 0", x.fits(0, 0), 2);
                due("SIZE 1 lacks 1 inch of 0", x.lacks(0), 1);
                x.makes(0, 1, 0);
                due("SIZE 0 in 0", x.fits(0, 0), 1);
                due("SIZE 0 lacks none", x.lacks(0), 0);
                x.makes(0, 1, 1);
            }
            x.waits(60);
        }
        x = with("y5040;y0040;r9;", 9999);
        due("hour 166", x.yard(0, 3), 0);
        due("not of a FLOODING", x.yard(1, 3), 40);
    }

    private static void hours() {
        about = "HOUR is CLOCK by 60, cut";
        BreatheOut x = told("y5040;r1;b10000;");
        int[] waits = {0, 59, 1, 59, 1, 59, 1};
        int[] rooms = {40, 40, 39, 39, 38, 38, 37};
        for (int k = 0; k < waits.length; k++) {
            x.waits(waits[k]);
            due("room at " + x.count(2), x.yard(0, 3), rooms[k]);
        }
        x.set(0, 9);
        due("9 inches an HOUR, hour 3", x.yard(0, 3), 13);
        x.set(0, 0);
        due("0 inches an HOUR", x.yard(0, 3), 40);
        x = kinds(0, 40);
        x.waits(60);
        int[] rooms0 = {40, 44, 40, 40, 40, 39, 39, 88};
        for (int k = 0; k < 8; k++) due("only a FLOODING's: kind " + k, x.yard(k, 3), rooms0[k]);
    }

    private static void more() {
        about = "MORE, by POSTURE";
        BreatheOut x = kinds(5, 20);
        tell(x, "b30400;");
        int[][] sizes = {{29, 30, 29, 30}, {29, 30, 29, 30}, {29, 30, 29, 30}, {31, 32, 29, 30}, {29, 30, 30, 31}, {29, 30, 29, 30}, {29, 30, 29, 30}, {29, 30, 29, 30}};
        for (int k = 0; k < 8; k++) {
            for (int p = 0; p < 4; p++) {
                due("kind " + k + ", posture " + p, x.size(0, k, p, 0), sizes[k][p]);
                due("out, kind " + k + ", posture " + p, x.size(0, k, p, 1), sizes[k][p] - 4);
            }
        }
    }

    private static void minutes() {
        about = "MINUTES there, back";
        for (int f = 0; f < 10; f++) {
            BreatheOut x = kinds(f, 20);
            int[] there = {2, 1, 2 + f, 2 + f, 1, 2, 7 + f, 1};
            int[] back = {2, 1, 2 + f, 2 + f, 5, 2, 7 + f, 1};
            for (int k = 0; k < 8; k++) {
                due("there, kind " + k + ", figure " + f, x.yard(k, 4), there[k]);
                due("back, kind " + k + ", figure " + f, x.yard(k, 5), back[k]);
            }
        }
    }

    private static void sixBodies() {
        about = "BODIES 0 .. 5 as they come (6 at most)";
        BreatheOut x = new BreatheOut();
        for (int b = 0; b < 6; b++) {
            due("told", tell(x, "b" + (20 + b) + "000;"), 1);
            due("how many", x.count(1), b + 1);
            due("the last there is", x.body(b, 0), 20 + b);
            due("last in ORDER", x.body(b, 5), b);
            due("none behind it", x.body(b + 1, 0), -1);
        }
        due("a seventh", tell(x, "b26000;"), -2000);
        due("all CHESTS", x.count(7), 6 * 20 + 15);
        go("no YARDS", x, 63, -4, -4, 0, 0);
        back("no YARDS", x, 63, -4, 0, 0);
    }

    private static void sizes() {
        about = "SIZE";
        BreatheOut x = told("y0020;y3020;b30000;b10900;b50090;");
        for (int f = 0; f < 10; f++) {
            x.makes(0, 0, f);
            due("a third of FEAR " + f, x.size(0, 0, 1, 0), 30 + THIRD[f]);
            due("1 less with one arm ahead", x.size(0, 0, 0, 0), 29 + THIRD[f]);
        }
        due("the least", x.size(1, 0, 0, 1), 0);
        due("the greatest", x.size(2, 1, 1, 0), 55);
        due("OUT 0", x.size(2, 1, 1, 1), 55);
        due("OUT 9", x.size(1, 1, 1, 1), 3);
    }

    private static void fits() {
        about = "SIZE is ROOM or less";
        int[][] cases = {{20, 1, 0}, {21, 1, 0}, {22, 1, 1}, {23, 1, 2}, {21, 0, 0}, {22, 0, 2}, {30, 9, 1}, {31, 9, 2}, {22, 9, 1}};
        for (int[] c : cases) {
            BreatheOut x = told("y0020;b" + c[0] + c[1] + "00;");
            due("chest " + c[0] + ", out " + c[1], x.fits(0, 0), c[2]);
            due("lacks", x.lacks(0), Math.max(0, c[0] - 1 - c[1] - 20));
            due("stuck at", x.way(0, 0, 0), c[2] == 2 ? 0 : -4);
            due("minutes", x.way(0, 0, 1), c[2] == 2 ? 0 : 2 + c[2]);
            due("breaths", x.way(0, 0, 2), c[2] == 1 ? 1 : 0);
        }
    }

    private static void breaths() {
        about = "a BREATH";
        BreatheOut x = told("y0020;".repeat(12) + "b22100;");
        due("one at each", x.way(0, 0, 2), 12);
        due("a minute each", x.way(0, 0, 1), 36);
        go("one at each", x, 1, -4, -4, 36, 12);
        due("back", x.way(0, 1, 2), 12);
        due("back", x.back(3), 72);
    }

    private static void help() {
        about = "HELP: a third, cut, of each PULL";
        for (int p = 0; p < 10; p++) {
            BreatheOut x = told("b2000" + p + ";b20000;b20000;");
            due("nobody beyond, PULL 0 behind", x.help(0), 0);
            due("PULL " + p + " beyond, 0 behind", x.help(1), THIRD[p]);
            due("PULL " + p + " beyond still, none behind", x.help(2), THIRD[p]);
            x.change(0, 1);
            due("nobody beyond, PULL " + p + " behind", x.help(1), THIRD[p]);
            due("its own PULL is none", x.help(0), 0);
            for (int q = 0; q < 10; q++) {
                x = told("b2000" + p + ";b20009;b2000" + q + ";b20000;");
                due("PULL " + p + " beyond, " + q + " behind", x.help(1), THIRD[p] + THIRD[q]);
                due("the greatest of 9 and " + p, x.help(2), 3);
            }
        }
        due("one alone", told("b20009;").help(0), 0);
        due("the last has nobody behind it", told("b20002;b20009;").help(1), 0);
    }

    private static void helpIsAsMuchAsLacks() {
        about = "HELP is as much as lacks";
        // PULL of the one ahead, of the one behind, inches that lack: by whom nobody is helped with an inch more.
        int[][] helps = {{0, 0, 0}, {2, 2, 0}, {3, 0, 1}, {0, 3, 1}, {5, 5, 2}, {6, 0, 2}, {0, 6, 2}, {8, 8, 4}, {9, 8, 5}, {9, 9, 6}};
        for (int[] h : helps) {
            for (int lack = 1; lack < 8; lack++) {
                BreatheOut x = told("y0020;b1000" + h[0] + ";b" + (21 + lack) + "000;b1000" + h[1] + ";");
                due("lacks", x.lacks(1), lack);
                boolean through = lack <= h[2];
                String call = "PULLS " + h[0] + ", " + h[1] + ", lacks " + lack;
                go(call, x, through ? 7 : 1, through ? -4 : 1, through ? -4 : 0, through ? 16 : 2, 0);
            }
        }
    }

    private static void helped() {
        about = "it takes 10 MINUTES more";
        BreatheOut x = told("y0020;y0030;y0020;b10009;b23100;");
        due("lacks", x.lacks(1), 1);
        go("twice helped, no BREATH", x, 3, -4, -4, 6 + 12 + 2 + 12, 0);
        x.makes(1, 2, 22);
        go("no help that is not needed", x, 3, -4, -4, 6 + 3 + 2 + 3, 2);
    }

    private static void thoseBeyond() {
        about = "beyond; behind it the next in ORDER, if there is one";
        // The one at YARD 1 is pulled by those who are THROUGH all YARDS, pushed by the next one, still outside.
        BreatheOut x = told("y0030;y0020;b10003;b23000;b10003;");
        go("1 and 1", x, 7, -4, -4, 4 + 4 + 10 + 4, 0);
        x = told("y0030;y0020;b10003;b23000;b10002;");
        go("1 alone", x, 1, 1, 1, 4 + 2, 0);
        x = told("y0030;y0020;b10003;b23000;");
        go("none behind", x, 1, 1, 1, 4 + 2, 0);
        x = told("y0030;y0020;b23000;b10009;");
        due("lacks 2", x.lacks(0), 2);
        go("the first has none beyond", x, 3, -4, -4, 4 + 10 + 4, 0);
        x = told("y0030;y0020;b23000;b10005;b10009;");
        go("the next but one does not help", x, 0, 0, 1, 2, 0);
    }

    private static void goThere() {
        about = "ALL GO THERE";
        go("one", told("y0020;b20000;"), 1, -4, -4, 2, 0);
        go("one, STUCK", told("y0020;b22000;t07;"), 0, 0, 0, 7, 0);
        go("all behind it stay outside", told("y0020;b22000;b20000;b20000;"), 0, 0, 0, 0, 0);
        go("the last is STUCK", told("y0020;b20000;b20000;b22000;"), 3, 2, 0, 4, 0);
        go("at the last YARD", told("y0030;y0030;y0020;b20000;b22000;"), 1, 1, 2, 10, 0);
        go("all six", told("y0020;b20000;b20000;b20000;b20000;b20000;b20000;"), 63, -4, -4, 12, 0);
        go("by ORDER 2, 0, 1, bits by number", told("y0020;b20000;b22000;b20000;x02;x01;"), 5, 1, 0, 4, 0);
        go("by ORDER 2, 1, 0", told("y0020;b20000;b22000;b20000;x02;"), 4, 1, 0, 2, 0);
        BreatheOut x = told("y0020;b20000;b22000;b20000;x01;");
        go("first in ORDER", x, 0, 1, 0, 0, 0);
        x.makes(1, 2, 21);
        go("when it is not", x, 7, -4, -4, 6, 0);
        x.makes(0, 2, 22);
        go("when another is", x, 2, 0, 0, 2, 0);
        x.makes(1, 2, 22);
        go("when both are", x, 0, 1, 0, 0, 0);
        back("when both are", x, 0, -4, 0, 0);
        x = new BreatheOut();
        tell(x, "y0020;y0020;t33;");
        go("nobody", x, 0, -4, -4, 33, 0);
        back("nobody", x, 0, -4, 0, 33);
    }

    private static void goAtTheHour() {
        about = "each as the one ahead is THROUGH; CLOCK goes on by MINUTES";
        // 20 inches at hour 0, 15 at hour 1; one comes to it when those ahead are THROUGH.
        go("1 comes at 59", with("y5020;b20000;b20000;r5;", 57), 3, -4, -4, 61, 0);
        go("1 comes at 60", with("y5020;b20000;b20000;r5;", 58), 1, 1, 0, 60, 0);
        go("0 comes to YARD 1 at 59", with("y0020;y5020;b20000;r5;", 57), 1, -4, -4, 61, 0);
        go("0 comes to YARD 1 at 60", with("y0020;y5020;b20000;r5;", 58), 0, 0, 1, 60, 0);
        go("0 comes to YARD 1 at 60 with a BREATH", with("y0020;y5020;b21100;r5;", 57), 1, -4, -4, 61, 0);
        go("0 comes to YARD 1 at 60 with a BREATH", with("y0020;y5020;b22100;r5;", 57), 0, 0, 1, 60, 1);
        go("0 comes to YARD 1 at 59 with a BREATH", with("y0020;y5020;b22100;r5;", 56), 1, -4, -4, 62, 2);
        // In 20 inches it FITS breathed in, in 19 out, in 18 it needs HELP, in 17 it is STUCK: an hour each.
        String text = "y5020;b21100;b10003;";
        go("hour 0", with(text, 59), 3, -4, -4, 59 + 2 + 2, 0);
        go("hour 1", with(text, 60), 3, -4, -4, 60 + 3 + 2, 1);
        go("hour 1", with(text, 119), 3, -4, -4, 119 + 3 + 2, 1);
        go("hour 2", with(text, 120), 3, -4, -4, 120 + 12 + 2, 0);
        go("hour 2", with(text, 179), 3, -4, -4, 179 + 12 + 2, 0);
        go("hour 3", with(text, 180), 0, 0, 0, 180, 0);
    }

    private static void comeBack() {
        about = "ALL COME BACK: the ORDER turned round, YARDS from the last to 0";
        back("one", told("y4020;y0020;b20000;"), 1, -4, 0, 3 + 7);
        back("all six", told("y0020;b20000;b20000;b20000;b20000;b20000;b20000;"), 63, -4, 0, 24);
        // 0 lacks 1 and nobody is beyond on the way there; 1 is behind it there, and beyond on the way back.
        back("0, pushed there by 1, pulled back by 1", told("y0020;b22000;b10003;"), 3, -4, 0, 12 + 2 + 2 + 12);
        // 1 lacks 1: pulled by 0 there; pushed by 0 back.
        back("1, pulled there by 0, pushed back by 0", told("y0020;b10003;b22000;"), 3, -4, 0, 2 + 12 + 12 + 2);
        // 0, pushed there by 1, has nobody behind it on the way back, and 2 and 1 beyond.
        back("0 has 1 and 2 beyond", told("y0020;b22000;b10003;b10000;"), 7, -4, 0, 12 + 2 + 2 + 2 + 2 + 12);
        // 2 lacks 2: there 0 and 1 are beyond (PULL 6), back nobody is and 1 (PULL 5) is behind it.
        back("the first back is STUCK", told("y0020;b10006;b10005;b23000;"), 0, 2, 3, 2 + 2 + 12);
        back("the first back is pushed by the next, not by the one behind that", told("y0020;b10005;b10006;b23000;"), 7, -4, 0, 2 + 2 + 12 + 12 + 2 + 2);
        // 1 lacks 2: there 0 (PULL 9) is beyond; back 2 (PULL 3) is beyond and 0 (PULL 3 or 2) behind.
        back("1 and 1 help back", told("y0020;b10003;b23000;b10003;"), 7, -4, 0, 2 + 12 + 2 + 2 + 12 + 2);
        // 0 lacks 3: 9 behind there; back only 1 (PULL 9) and 2 (PULL 0) are beyond: the greatest is 9.
        back("the greatest PULL of those back", told("y0020;b24000;b10009;b10000;"), 7, -4, 0, 12 + 2 + 2 + 2 + 2 + 12);
    }

    private static void comeBackAtTheHour() {
        about = "one who is STUCK stays there: all behind it are SHUT IN";
        String text = "y5020;b20000;b20000;r5;";
        back("0 comes back at 59", with(text, 53), 3, -4, 0, 61);
        back("0 comes back at 60", with(text, 54), 2, 0, 0, 60);
        back("0 comes back at 61", with(text, 55), 2, 0, 0, 61);
        back("1 comes back at 60", with(text, 56), 0, 1, 1, 60);
        text = "y5020;b20000;b20000;b20000;b20000;b20000;b20000;r5;";
        back("5 comes back at 60", with(text, 48), 0, 5, 31, 60);
        back("5 at 58, 4 at 60", with(text, 46), 32, 4, 15, 60);
        back("2 at 60", with(text, 42), 56, 2, 3, 60);
        back("0 at 60", with(text, 38), 62, 0, 0, 60);
        back("0 at 59", with(text, 37), 63, -4, 0, 61);
        // On the way back the last YARD comes first: its flood at 60 is met one YARD earlier than on the way there.
        back("at 60 in the first YARD, the last on the way back", with("y5020;y0020;b20000;r5;", 54), 0, 0, 0, 60);
        back("at 59", with("y5020;y0020;b20000;r5;", 53), 1, -4, 0, 61);
        back("at 60 in the last YARD", with("y0020;y5020;b20000;r5;", 56), 0, 0, 0, 60);
        back("at 59", with("y0020;y5020;b20000;r5;", 55), 1, -4, 0, 63);
    }

    private static void comeBackUnlessStuck() {
        about = "else nobody is back, nobody STUCK on the way back, all who are THROUGH are SHUT IN, CLOCK is that of GO";
        back("nobody is THROUGH", told("y0020;b22000;b20000;t07;"), 0, -4, 0, 7);
        back("one is THROUGH", told("y0020;b20000;b22000;b20000;t07;"), 0, -4, 1, 9);
        back("five are", told("y0020;b20000;b20000;b20000;b20000;b20000;b22000;"), 0, -4, 31, 10);
        back("as far as the one who is STUCK came", told("y0030;y0020;b20000;b22000;"), 0, -4, 1, 6);
    }

    private static void clocksBeyondTheLast() {
        about = "CLOCK (0 .. 9999 MINUTES)";
        // Hour 166 reaches to minute 10019: GO may end beyond 9999, though nobody can wait that long.
        BreatheOut x = with("y0020;b20000;b20000;", 9999);
        go("beyond 9999", x, 3, -4, -4, 10003, 0);
        back("beyond 9999", x, 3, -4, 0, 10007);
        due("way", x.way(0, 0, 1), 2);
        due("way back", x.way(0, 1, 1), 2);
        due("best", x.order(-1), 2);
        due("no light", x.turns(), -4);
        due("the clock stays", x.waits(0), 9999);
        due("the image", x.image(), 9999);
        due("the image", x.restore(), 9999);
    }

    private static void settings() {
        about = "RISE, CALM, LIGHT";
        BreatheOut x = new BreatheOut();
        int[][] each = {{0, 9, 1}, {0, 0, 9}, {0, 5, 0}, {1, 60, 15}, {1, 1, 60}, {1, 30, 1}, {2, 999, 120}, {2, 0, 999}, {2, 500, 0}};
        for (int[] e : each) {
            due("what it was", x.set(e[0], e[1]), e[2]);
            due("what it is", x.count(3 + e[0]), e[1]);
        }
    }

    private static void orders() {
        about = "change: two change places in ORDER";
        BreatheOut x = told("b20000;b20000;b20000;b20000;b20000;b20000;");
        due("the first and the last", x.change(0, 5), 5);
        int[] places = {5, 1, 2, 3, 4, 0};
        for (int b = 0; b < 6; b++) due("place of " + b, x.body(b, 5), places[b]);
        due("the other way round", x.change(5, 0), 5);
        for (int b = 0; b < 6; b++) due("place of " + b, x.body(b, 5), b);
        due("neighbours", x.change(3, 2), 2);
        due("neighbours", x.body(2, 5), 3);
    }
}
