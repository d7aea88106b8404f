import java.math.BigInteger;

/** Part II of the Terms: sentence by sentence the edges of what is asked, worked out by hand. */
public final class QuestionsEdgesTest extends Checks {
    public static void main(String[] args) {
        way();
        bestPosture();
        lacks();
        widest();
        bestOrder();
        bestOrderOfEquals();
        stayBehind();
        timeToCalm();
        rescueByFewDeeds();
        rescueWithFearAtItsEnds();
        rescueByHelp();
        rescueOfAnother();
        turnRound();
        floods();
        haste();
        panic();
        firstWays();
        rockChests();
        rockSkips();
        rockNumbers();
        forged();
        judged();
        judgedSkips();
        parties();
        draws();
        asOfNow();
        end("the edges of part II hold");
    }

    private static void way() {
        about = "WAY of one alone (no HELP), there or back, from now";
        // STUCK at each YARD in turn, there and back.
        for (int stuck = 0; stuck < 12; stuck++) {
            BreatheOut x = told("y4030;".repeat(stuck) + "y0020;" + "y4030;".repeat(11 - stuck) + "b22000;b10009;t09;");
            due("stuck there", x.way(0, 0, 0), stuck);
            due("minutes there, as far as it comes", x.way(0, 0, 1), stuck);
            due("stuck back", x.way(0, 1, 0), stuck);
            due("minutes back, as far as it comes", x.way(0, 1, 1), 5 * (11 - stuck));
            due("nobody helps", x.way(0, 0, 2) + x.way(0, 1, 2), 0);
            due("the other is not stuck", x.way(1, 0, 0), -4);
            due("nor on the way back", x.way(1, 1, 0), -4);
        }
        BreatheOut x = told("y0020;y0019;y0020;b21100;b22100;b24000;");
        due("BREATHS, not STUCK", x.way(0, 0, 2), 1);
        due("BREATHS as far as it comes", x.way(1, 0, 2), 1);
        due("MINUTES as far as it comes", x.way(1, 0, 1), 3);
        due("BREATHS back as far as it comes", x.way(1, 1, 2), 1);
        due("STUCK at once: MINUTES", x.way(2, 0, 1), 0);
        due("STUCK at once: BREATHS", x.way(2, 0, 2), 0);
        x = told("b50999;");
        for (int what = 0; what < 3; what++) due("no YARDS", x.way(0, 0, what) + x.way(0, 1, what), what == 0 ? -8 : 0);
    }

    private static void bestPosture() {
        about = "BEST POSTURE: not STUCK, the fewest BREATHS, of several the least; -4";
        due("no YARDS", told("b50090;").posture(0), 0);
        due("0 and 2 equal", told("y0020;b21000;").posture(0), 0);
        due("0 and 2 equal, it has 3", told("y0020;b21000;p03;").posture(0), 0);
        due("2 without a BREATH, 0 with one", told("y3020;b20100;").posture(0), 2);
        due("2 with a BREATH, 0 STUCK", told("y3019;b21100;").posture(0), 2);
        due("2 STUCK, 0 with a BREATH", told("y4020;b22100;").posture(0), 0);
        due("all STUCK", told("y3018;b21100;").posture(0), -4);
        due("none has fewer at the slant than the least", told("y4020;b21000;").posture(0), 0);
        due("0 has two BREATHS, 2 one", told("y3020;y3020;y4019;b20200;").posture(0), 2);
        due("0 has one BREATH, 2 two", told("y3020;y4019;y4019;b20200;").posture(0), 0);
        due("one each", told("y3020;y4019;b20100;").posture(0), 0);
        BreatheOut x = told("y0020;b22000;b10009;");
        due("nobody helps", x.posture(0), -4);
    }

    private static void lacks() {
        about = "LACKS: the most inches (0: none), HOUR as now";
        due("no YARDS", told("b50090;").lacks(0), 0);
        due("an inch to spare", told("y0020;b20000;").lacks(0), 0);
        due("just as wide", told("y0020;b21000;").lacks(0), 0);
        due("an inch", told("y0020;b22000;").lacks(0), 1);
        due("breathed out", told("y0020;b22100;").lacks(0), 0);
        due("the most, in the first", told("y0020;y0021;y0022;b24000;").lacks(0), 3);
        due("the most, in the last", told("y0022;y0021;y0020;b24000;").lacks(0), 3);
        due("the most there can be", told("y5006;y3906;b50090;p01;r9;t60;").lacks(0), 53);
        BreatheOut x = told("y5020;b20000;r5;t59;");
        due("at 59", x.lacks(0), 0);
        x.waits(1);
        due("at 60", x.lacks(0), 4);
    }

    private static void widest() {
        about = "WIDEST: CHEST (10 .. 50); -4";
        due("50 of 51", told("y0040;b10900;p01;").widest(0), 49);
        due("50, just", told("y0040;b10900;").widest(0), 50);
        due("an inch less", told("y0039;b10900;").widest(0), 49);
        due("50, though there is more room", told("y7040;b10900;").widest(0), 50);
        due("10, just", told("y0009;b50000;").widest(0), 10);
        due("not even 10", told("y0008;b50000;").widest(0), -4);
        due("the narrowest YARD tells", told("y0030;y0020;y0025;b50000;").widest(0), 21);
        due("with FEAR", told("y0020;b50090;").widest(0), 18);
        due("nobody helps", told("y0020;b50000;b10009;").widest(0), 21);
        // With 21 inches it has no BREATH and is at the flood by 59, with 22 one and is there by 60.
        due("a BREATH makes it late", told("y0020;y5025;b10300;r9;t57;").widest(0), 21);
        due("none is late", told("y0020;y5025;b10300;r9;t56;").widest(0), 24);
    }

    private static void bestOrder() {
        about = "BEST ORDER: how many (i -1), the i-th; -4";
        BreatheOut x = new BreatheOut();
        due("nobody", x.order(-1), 0);
        due("nobody", x.order(0), -4);
        x = told("b50000;");
        due("no YARDS", x.order(-1), 1);
        due("one", x.order(0), 0);
        due("behind it", x.order(1), -4);
        x = told("y0020;b20000;b20000;b20000;b20000;b20000;b20000;x05;x14;");
        due("six", x.order(-1), 6);
        for (int i = 0; i < 6; i++) due("the first by BODIES, whatever the ORDER", x.order(i), i);
        due("behind them", x.order(6), -4);
        // 5 lacks 6: it must have 9 beyond and 9 behind it, there and back: between 0 and 1.
        x = told("y0020;b10009;b10009;b10000;b10000;b10000;b27000;");
        due("six", x.order(-1), 6);
        int[] order = {0, 5, 1, 2, 3, 4};
        for (int i = 0; i < 6; i++) due("place " + i, x.order(i), order[i]);
        // Nobody comes through in any ORDER: the least CLOCK is none gone by.
        x = told("y0030;y0020;b22000;b22000;b22000;t07;");
        due("nobody back", x.order(-1), 0);
        for (int i = 0; i < 3; i++) due("the first by BODIES", x.order(i), i);
    }

    private static void bestOrderOfEquals() {
        about = "most back; of several the least CLOCK then (as far as it goes); the first by BODIES";
        // An hour takes 5 inches: who goes through with a BREATH had better be ahead of the hour.
        BreatheOut x = told("y5025;b21000;b23400;r5;t57;");
        // 0, 1: 57 -> 59, -> 61, then both back in 20: 1 with a BREATH, 0 without: 61 -> 64 -> 66.
        // 1, 0: 57 -> 59, -> 61, then 0 -> 63, 1 -> 66. Both end by 66.
        due("both", x.order(-1), 2);
        due("equal CLOCKS: the first by BODIES", x.order(0), 0);
        x.waits(1);
        // 0, 1: 58 -> 60, 1 with a BREATH -> 63, back -> 66, -> 68. 1, 0: 58 -> 60, 0 -> 62, back 64, 1 -> 67.
        due("both", x.order(-1), 2);
        due("less by a BREATH", x.order(0), 1);
        due("then", x.order(1), 0);
        x.waits(2);
        // At 60 it is 20 inches for all.
        due("equal again", x.order(0), 0);
        // 2 never comes through. 0 lacks 1: with 1 (PULL 3) behind it it comes through, with 2 it is STUCK at once.
        x = told("y0020;b22000;b10003;b30000;");
        due("nobody", x.order(-1), 0);
        int[] soonest = {0, 2, 1};
        for (int i = 0; i < 3; i++) due("the least CLOCK, the first by BODIES: place " + i, x.order(i), soonest[i]);
        // 1 lacks 1 and has it from 2 alone: STUCK at once by 1, 0, 2, but most back are ahead of the least CLOCK.
        x = told("y0020;b10000;b22000;b10003;");
        due("all three", x.order(-1), 3);
        for (int i = 0; i < 3; i++) due("all equal, the first by BODIES: place " + i, x.order(i), i);
    }

    private static void stayBehind() {
        about = "STAY BEHIND: the fewest BODIES (bits, of several the least)";
        due("nobody", new BreatheOut().stays(), 0);
        due("no YARDS", told("b50000;b50000;").stays(), 0);
        due("one", told("y0020;b20000;").stays(), 0);
        due("one, STUCK: none are all others", told("y0020;b22000;").stays(), 1);
        due("all six", told("y0020;b22000;b22000;b22000;b22000;b22000;b22000;").stays(), 63);
        due("the last of six", told("y0020;b20000;b20000;b20000;b20000;b20000;b22000;").stays(), 32);
        due("the first of six", told("y0020;b22000;b20000;b20000;b20000;b20000;b20000;").stays(), 1);
        // Two go there and back in 8 minutes, the last to come back comes at 6: that must be 59 at the latest.
        due("both", told("y5020;b20000;b20000;r5;t53;").stays(), 0);
        due("one of two, the least", told("y5020;b20000;b20000;r5;t54;").stays(), 1);
        due("one of two, the least, whatever the ORDER", told("y5020;b20000;b20000;r5;t54;x01;").stays(), 1);
        due("one alone, just", told("y5020;b20000;b20000;r5;t57;").stays(), 1);
        due("none", told("y5020;b20000;b20000;r5;t58;").stays(), 3);
        due("two of three, the least", told("y5020;b20000;b20000;b20000;r5;t54;").stays(), 3);
        // 2 takes 3 minutes there: without it 0 and 1 are back in time, without 0 and 1 it is: one is fewer than two.
        due("the fewest ahead of the least", told("y5020;b20000;b20000;b22200;r5;t52;").stays(), 4);
        // In ORDER 1, 0, 2 nobody is next to 2 but 0.
        BreatheOut x = told("y0020;b10000;b10009;b23000;");
        due("ORDER as it is: 2 has 1 beyond, and 1 behind it on the way back", x.stays(), 0);
        x.change(0, 1);
        due("ORDER as it is: 0 stands between", x.stays(), 1);
    }

    private static void timeToCalm() {
        about = "TIME TO CALM: 0, CALM, twice CALM ..; -4";
        // FEAR 9 is 3 inches, 8 and 7 and 6 two, 5 one, 2 none.
        int[] needed = {0, 15, 60, 105, -4};
        for (int k = 0; k < 5; k++) {
            BreatheOut x = told("y0020;b" + (18 + k) + "090;");
            due("FEAR 9, chest " + (18 + k), x.calms(0), needed[k]);
            x.set(1, 1);
            due("CALM 1", x.calms(0), needed[k] < 0 ? -4 : needed[k] / 15);
            x.set(1, 60);
            due("CALM 60", x.calms(0), needed[k] < 0 ? -4 : needed[k] * 4);
        }
        due("FEAR 3, one less", told("y0020;b21030;").calms(0), 15);
        due("FEAR 2 is none already", told("y0020;b21020;").calms(0), 0);
        due("FEAR 0, an inch lacks", told("y0020;b22000;").calms(0), -4);
        due("FEAR 2, an inch lacks: not below 0", told("y0020;b22020;").calms(0), -4);
        due("no YARDS", told("b50090;").calms(0), 0);
        due("breathed out", told("y0020;b21390;").calms(0), 0);
        due("nobody helps", told("y0020;b22000;b10009;").calms(0), -4);
        // CLOCK as now: calming till hour 1 does not bring the water.
        due("CLOCK as now", told("y5020;b21030;c60;r9;t01;").calms(0), 60);
    }

    private static void rescued(String call, BreatheOut x, int n, int minutes, int... deeds) {
        due(call + ": MINUTES", x.rescue(0, 0, n, -1), minutes);
        for (int i = 0; i < deeds.length; i++) due(call + ": deed " + i, x.rescue(0, 0, n, i), deeds[i]);
        for (int i = deeds.length; i < 7; i++) due(call + ": no deed " + i, x.rescue(0, 0, n, i), -4);
    }

    private static void rescueByFewDeeds() {
        about = "RESCUE: at most n deeds (0 .. 6)";
        // FEAR 0, alone: each haste is an inch, and every third makes it an inch larger.
        int[] hastes = {0, 1, 2, 4, 5};
        for (int lack = 1; lack < 5; lack++) {
            for (int n = 0; n < 7; n++) {
                BreatheOut x = told("y0020;b" + (21 + lack) + "000;c60;");
                int[] deeds = new int[hastes[lack]];
                java.util.Arrays.fill(deeds, 3);
                if (n >= hastes[lack]) rescued("lacks " + lack + ", " + n + " deeds", x, n, 2 * hastes[lack], deeds);
                else rescued("lacks " + lack + ", " + n + " deeds", x, n, -4);
            }
        }
        rescued("5 inches are too many for 6 deeds", told("y0020;b26000;c60;"), 6, -4);
        // Six pulls of 3 inches.
        rescued("18 inches", told("y0020;b39000;b10009;"), 6, 60, 0, 0, 0, 0, 0, 0);
        rescued("18 inches by 5", told("y0020;b39000;b10009;"), 5, -4);
        rescued("19 inches", told("y0020;b40000;b10009;"), 6, -4);
        // Lacks 2 at FEAR 8: two hastes make it lack 3, and a wait from 9 to 8 makes it lack 2 again.
        rescued("two hastes and a wait", told("y0020;b21080;c01;"), 6, 5, 3, 3, 2);
        rescued("by two", told("y0020;b21080;c01;"), 2, -4);
        // Lacks 1 at FEAR 5: three waits, a wait and a haste, or a haste and a wait are 3 minutes each.
        rescued("the first by deeds, though more of them", told("y0020;b21050;c01;"), 6, 3, 2, 2, 2);
        rescued("the first by deeds of two", told("y0020;b21050;c01;"), 2, 3, 2, 3);
    }

    private static void rescueWithFearAtItsEnds() {
        about = "FEAR 1 less, 0 at least; FEAR 1 more, 9 at most";
        // Lacks 3 at FEAR 0: three hastes make FEAR 3, one of them must be calmed, and at FEAR 0 a wait does nothing.
        rescued("0 at least", told("y0020;b24000;c01;"), 6, 7, 3, 2, 3, 3);
        rescued("by 3", told("y0020;b24000;c01;"), 3, -4);
        // At FEAR 9 hastes make it no larger.
        rescued("9 at most", told("y0020;b21090;"), 6, 6, 3, 3, 3);
        // Lacks 4 at FEAR 9: three hastes, then a wait from 9 to 8.
        rescued("9 at most, then 8", told("y0020;b22090;c01;"), 6, 7, 3, 3, 3, 2);
        rescued("9 at most, six", told("y0020;b24090;c60;"), 6, 12, 3, 3, 3, 3, 3, 3);
        rescued("seven inches at FEAR 9", told("y0020;b25090;c60;"), 6, -4);
    }

    private static void rescueByHelp() {
        about = "a third, cut, of the greatest PULL of all others; lacking is no more than HELP";
        int[] third = {0, 0, 0, 1, 1, 1, 2, 2, 2, 3};
        for (int p = 0; p < 10; p++) {
            BreatheOut x = told("y0020;b23009;b1000" + p + ";b10000;");
            due("two inches by one pull of PULL " + p, x.rescue(0, 0, 1, -1), third[p] >= 2 ? 10 : -4);
            due("the least of PULLS is 0: no push", x.rescue(0, 0, 1, 0), third[p] >= 2 ? 0 : -4);
            x.makes(0, 2, 22);
            due("an inch by a haste", x.rescue(0, 0, 1, -1), 2);
        }
        // All others, whatever the ORDER; not its own PULL.
        BreatheOut x = told("y0020;b24009;b10002;b10009;x02;");
        rescued("three inches", x, 1, 10, 0);
        rescued("four inches", told("y0020;b25009;b10002;b10009;"), 1, -4);
        rescued("alone", told("y0020;b24009;"), 1, -4);
        // CALM tells whether to wait: lacks 1 at FEAR 3, wait or haste; the first by deeds of equals.
        BreatheOut y = told("y0020;b21030;b10009;c01;");
        rescued("1 minute", y, 6, 1, 2);
        y.set(1, 2);
        rescued("2 minutes, as a haste: the first by deeds", y, 6, 2, 2);
        y.set(1, 3);
        rescued("2 minutes", y, 6, 2, 3);
        // Breathed out: it lacks what it lacks then.
        rescued("breathed out", told("y0020;b24200;"), 6, 2, 3);
        // The HOUR is now.
        rescued("the HOUR is now", told("y5020;b22000;r9;t59;"), 6, 2, 3);
        rescued("a minute later", told("y5020;b22000;b10009;r9;t60;"), 4, 32, 0, 0, 0, 3);
    }

    private static void rescueOfAnother() {
        about = "of one STUCK alone: all others are whoever it is not";
        int[] pulls = {9, 6, 3};
        for (int b = 0; b < 3; b++) {
            BreatheOut x = told("y0020;b10009;b10006;b10003;");
            x.makes(b, 2, 24);
            int greatest = b == 0 ? 2 : 3;
            due("three inches, by " + greatest + " each", x.rescue(b, 0, 1, -1), greatest == 3 ? 10 : -4);
            x.makes(b, 2, 23);
            due("two inches", x.rescue(b, 0, 1, -1), 10);
            due("by a pull", x.rescue(b, 0, 1, 0), 0);
            x.makes(b, 2, 25);
            due("four inches, one deed", x.rescue(b, 0, 1, -1), -4);
            due("four inches, one deed: the first", x.rescue(b, 0, 1, 0), -4);
            due("its own PULL stays", x.body(b, 3), pulls[b]);
        }
        BreatheOut x = told("y0020;y0015;y0019;b22000;");
        int[] minutes = {2, -4, 4};
        for (int y = 0; y < 3; y++) due("in YARD " + y, x.rescue(0, y, 6, -1), minutes[y]);
    }

    private static void turnRound() {
        about = "TURN ROUND: MINUTES (0 .. 600), CLOCK then LIGHT or less; -4";
        int[][] cases = {{4, 0, 0}, {3, 0, -4}, {5, 0, 1}, {0, 0, -4}, {603, 0, 599}, {604, 0, 600}, {605, 0, 600}, {999, 0, 600}, {999, 395, 600},
            {999, 396, 599}, {999, 994, 1}, {999, 995, 0}, {999, 996, -4}, {120, 116, 0}, {120, 117, -4}, {120, 500, -4}};
        for (int[] c : cases) {
            BreatheOut x = told("y0020;b20000;");
            x.set(2, c[0]);
            for (int rest = c[1]; rest > 0; rest -= 99) x.waits(Math.min(99, rest));
            due("LIGHT " + c[0] + ", CLOCK " + c[1], x.turns(), c[2]);
        }
        BreatheOut x = new BreatheOut();
        due("nobody: LIGHT itself", x.turns(), 120);
        x.waits(99);
        x.waits(21);
        due("nobody, CLOCK is LIGHT", x.turns(), 0);
        x.waits(1);
        due("nobody, CLOCK above LIGHT", x.turns(), -4);
        x.set(2, 999);
        due("nobody", x.turns(), 600);
        due("STUCK", told("y0020;b22000;l999;").turns(), -4);
        due("one of two STUCK", told("y0020;b20000;b22000;l999;").turns(), -4);
        // It must come back at 59 at the latest, so start at 57.
        due("ahead of the water", told("y5020;b20000;r5;l999;").turns(), 57);
        due("ahead of the water, now", told("y5020;b20000;r5;l999;t57;").turns(), 0);
        due("too late for the water", told("y5020;b20000;r5;l999;t58;").turns(), -4);
        due("LIGHT ends ahead of the water", told("y5020;b20000;r5;l060;").turns(), 56);
        due("the last minute of water and of LIGHT", told("y5020;b20000;r5;l061;").turns(), 57);
        // In 19 inches of hour 1 it has a BREATH there and back: 6 minutes, not 4.
        due("with BREATHS", told("y5020;b21900;l120;").turns(), 114);
    }

    private static void floods() {
        about = "FLOODS: the HOUR (0 .. 99); -4 never";
        due("too narrow from the first", told("y5020;b22000;").floods(0, 0), 0);
        due("just wide enough at first", told("y5020;b21000;").floods(0, 0), 1);
        due("at the last HOUR that can be", told("y5040;b10800;").floods(0, 0), 40);
        due("SIZE 0 is never too large", told("y5040;b10900;r9;").floods(0, 0), -4);
        due("9 inches an HOUR", told("y5040;b10800;r9;").floods(0, 0), 5);
        due("RISE 0", told("y5020;b21000;r0;").floods(0, 0), -4);
        due("RISE 0, too narrow", told("y5020;b22000;r0;").floods(0, 0), 0);
        due("no FLOODING", told("y0020;b21000;").floods(0, 0), -4);
        due("no FLOODING, too narrow", told("y0020;b22000;").floods(0, 0), 0);
        due("breathed out", told("y5020;b21300;").floods(0, 0), 4);
        due("by its POSTURE, at a slant", told("y4020;b21000;p02;").floods(0, 0), 0);
        due("by its POSTURE, at a slant", told("y4020;b21000;p00;").floods(0, 0), -4);
        due("by its POSTURE, at a keyhole", told("y3020;b21000;p02;").floods(0, 0), -4);
        due("by its POSTURE, at a keyhole", told("y3020;b21000;p00;").floods(0, 0), 0);
        due("whatever the HOUR now", told("y5020;b21300;t99;t99;t99;t99;").floods(0, 0), 4);
    }

    private static void haste() {
        about = "HASTE: CLOCK less (0 at least)";
        due("nobody", new BreatheOut().haste(), 0);
        due("FEAR 0", told("y0020;b22200;").haste(), 0);
        due("a third of FEAR 2 is nothing", told("y0020;b21120;").haste(), 0);
        due("an inch: a BREATH there and back", told("y0020;b21130;").haste(), 2);
        due("HELP there and back", told("y0020;b21030;b10003;").haste(), 20);
        // STUCK at once with FEAR, there and back without: CLOCK would be more.
        due("not below 0", told("y0020;b21090;").haste(), 0);
        due("STUCK at the last YARD", told("y6930;y6930;y0020;b20000;b21090;t01;").haste(), 0);
        // A BREATH each at two YARDS, then STUCK at 6 minutes; without FEAR it is there and back in 12.
        due("STUCK with BREATHS", told("y0020;y0020;y0018;b20190;").haste(), 0);
    }

    private static void panicked(String text, long above, long below) {
        BreatheOut x = told(text);
        due(text + " above", x.panic(0), above);
        due(text + " below", x.panic(1), below);
    }

    private static void panic() {
        about = "PANIC: by FEAR tenths, FEAR 9 then; a fraction in least terms";
        panicked("y0020;", 1, 1);
        panicked("b50090;", 1, 1);
        panicked("y0020;b20000;", 1, 1);
        panicked("y0020;b22000;", 0, 1);
        // In panic it is 3 inches larger: STUCK.
        String[] below = {"10", "10", "5", "10", "5", "2", "5", "10", "5", "10"};
        long[] above = {10, 9, 4, 7, 3, 1, 2, 3, 1, 1};
        // Not in panic, a third of its FEAR counts: room for FEAR 9 less an inch.
        for (int f = 0; f < 9; f++) {
            long part = f == 0 ? 1 : above[f];
            panicked("y0022;b210" + f + "0;", part, f == 0 ? 1 : Long.parseLong(below[f]));
        }
        // FEAR 9 has 9 as well when it is not in panic.
        panicked("y0022;b21090;", 0, 1);
        panicked("y0023;b21090;", 1, 1);
        panicked("y0020;b18030;b18050;", 1, 1);
        panicked("y0019;b18030;b18050;", 7, 20);
        panicked("y0022;b21010;b21010;b21010;b21010;b21010;b21010;", 531441, 1000000);
        panicked("y0022;b21050;b21050;b21050;b21050;b21050;b21050;", 1, 64);
        panicked("y0022;b21080;b21080;b21080;b21080;b21080;b21080;", 1, 15625);
        panicked("y0022;b21070;b21070;b21070;b21070;b21070;b21070;", 729, 1000000);
    }

    private static void firstWays() {
        about = "FIRST WAYS: 4 BODIES at most; the least by BODIES' digits";
        due("nobody", new BreatheOut().firstWays(), 0);
        due("no YARDS", told("b50000;p03;").firstWays(), 0);
        due("one", told("y3020;b21000;").firstWays(), 2);
        due("one of several ways", told("y0020;b20000;p03;").firstWays(), 0);
        due("four feet first", told("y3020;b21000;b21000;b21000;b21000;").firstWays(), 2222);
        due("BODY 0 the highest digit", told("y3020;b21000;b19000;b19000;b19000;").firstWays(), 2000);
        due("the last the lowest", told("y3020;b19000;b19000;b19000;b21000;").firstWays(), 2);
        due("by BODIES, not by ORDER", told("y3020;b21000;b19000;b19000;b19000;x03;").firstWays(), 2000);
        due("nobody back in any way", told("y0020;b30000;b20000;").firstWays(), 0);
        // 1 must lie feet first. At 51 it comes back by 59, 0 behind it is STUCK by the water, however it lies.
        due("both back", told("y3020;y5020;b18000;b21000;r9;t47;").firstWays(), 2);
        due("one back, 0 as it will", told("y3020;y5020;b18000;b21000;r9;t51;").firstWays(), 2);
        due("nobody back", told("y3020;y5020;b18000;b21000;r9;t52;").firstWays(), 0);
        due("five", told("b20000;b20000;b20000;b20000;b20000;").firstWays(), -3);
        // Feet first, with both arms back, it is 20 in the keyhole, 21 in the slant: only 2 fits both.
        due("at a slant and a keyhole", told("y3020;y4021;b21000;").firstWays(), 2);
    }

    private static void rocked(String text, String call, int sort, int[] row, int many, int least) {
        BreatheOut x = told(text);
        rowOf(x, 0, sort, row);
        about = "ROCK: how many; the least; -4";
        due(call, x.rock(0, 0, 0), many);
        due(call, x.rock(0, 0, 1), least);
    }

    private static void rockChests() {
        rocked("y0009;b20000;", "10 alone FITS breathed in", 0, new int[] {0}, 1, 10);
        rocked("y0008;b20000;", "none FITS", 0, new int[] {0}, 0, -4);
        rocked("y0008;b20000;", "all are STUCK", 0, new int[] {2}, 41, 10);
        rocked("y0009;b20000;", "all but 10", 0, new int[] {2}, 40, 11);
        rocked("y0040;b20800;", "50 alone is STUCK", 0, new int[] {2}, 1, 50);
        rocked("y0040;b20900;", "none is STUCK", 0, new int[] {2}, 0, -4);
        rocked("y0040;b20900;", "42 .. 50 breathed out", 0, new int[] {1}, 9, 42);
        rocked("y0040;b20900;", "10 .. 41 breathed in", 0, new int[] {0}, 32, 10);
        rocked("y0040;b20000;", "OUT 0: none breathed out", 0, new int[] {1}, 0, -4);
        rocked("y7040;b20000;", "all breathed in", 0, new int[] {0}, 41, 10);
        rocked("y0020;b20000;", "told nothing", 0, new int[] {}, 41, 10);
        rocked("b20000;", "told nothing, no YARDS", 2, new int[] {}, 41, 10);
        // Its own CHEST does not matter, its FEAR and POSTURE do; nor do others.
        rocked("y0020;b50030;p01;b10009;", "FEAR and both arms back", 1, new int[] {0}, 10, 10);
        rocked("y0020;y0030;y0025;b20000;", "between two", 0, new int[] {2, 0, 0}, 5, 22);
        rocked("y0020;y0030;y0025;b20000;", "as many numbers as YARDS", 0, new int[] {2, 0, 2}, 5, 27);
        rocked("y0020;y0030;y0025;b20000;", "fewer", 0, new int[] {2, 0}, 10, 22);
    }

    private static void rockSkips() {
        int[] least = {-128, -32768, Integer.MIN_VALUE};
        for (int sort = 0; sort < 3; sort++) {
            rocked("y0020;y0030;b20000;", "the first is skipped, sort " + sort, sort, new int[] {least[sort], 0}, 22, 10);
            rocked("y0020;y0030;b20000;", "the last is skipped, sort " + sort, sort, new int[] {2, least[sort]}, 29, 22);
            rocked("y0020;y0030;b20000;", "all are skipped, sort " + sort, sort, new int[] {least[sort], least[sort]}, 41, 10);
            rocked("y0020;y0030;b20000;", "one more than the least is not, sort " + sort, sort, new int[] {least[sort] + 1, 0}, 0, -4);
            rocked("y0020;y0030;b20000;", "the greatest is not, sort " + sort, sort, new int[] {-1 - least[sort], 0}, 0, -4);
            for (int other = 0; other < sort; other++) {
                rocked("y0020;y0030;b20000;", "the least of sort " + other + " is not, sort " + sort, sort, new int[] {least[other], 0}, 0, -4);
            }
        }
    }

    private static void rockNumbers() {
        for (int sort = 0; sort < 3; sort++) {
            for (int v : new int[] {-1, 3, 100, -127}) rocked("y0020;b20100;", "number " + v, sort, new int[] {v}, 0, -4);
            rocked("y0020;b20100;", "0", sort, new int[] {0}, 12, 10);
            rocked("y0020;b20100;", "1", sort, new int[] {1}, 1, 22);
            rocked("y0020;b20100;", "2", sort, new int[] {2}, 28, 23);
        }
    }

    private static void forged() {
        about = "FORGED: the first place such that no CHEST fits all up to it; -4";
        String twelve = "y0020;".repeat(12) + "b20000;";
        for (int place = 0; place < 12; place++) {
            BreatheOut x = told(twelve);
            x.row(0, 1, 12);
            due("none", x.forged(0, 0), -4);
            x.put(0, place, 1);
            // OUT 0: nobody breathes out.
            due("place " + place, x.forged(0, 0), place);
            x.put(0, place, 2);
            // All FITTED at the others: at place 0 a CHEST that is STUCK fits, then the next 0 does not.
            due("STUCK at " + place + " alone", x.forged(0, 0), place == 0 ? 1 : place);
            x.put(0, place, -32768);
            due("skipped", x.forged(0, 0), -4);
        }
        BreatheOut x = told(twelve);
        x.row(0, 0, 0);
        due("told nothing", x.forged(0, 0), -4);
        rowOf(x, 0, 0, 3);
        due("a number that is none", x.forged(0, 0), 0);
        rowOf(x, 0, 0, 2);
        due("a CHEST fits", x.forged(0, 0), -4);
        x = told("y0009;y0008;b20000;");
        rowOf(x, 0, 0, 0, 2);
        due("10 alone", x.forged(0, 0), -4);
        rowOf(x, 0, 0, 0, 0);
        due("no CHEST of 9", x.forged(0, 0), 1);
        x = told("y0040;b20800;");
        rowOf(x, 0, 0, 2);
        due("50 alone", x.forged(0, 0), -4);
        x = told("y0040;b20900;");
        rowOf(x, 0, 0, 2);
        due("no CHEST of 51", x.forged(0, 0), 0);
    }

    private static void judgedBy(BreatheOut x, String call, int want, int sort, int... row) {
        rowOf(x, 0, sort, row);
        due(call, x.judge(0), want);
    }

    private static void judged() {
        about = "JUDGED: the first that is not so (behind those who are THROUGH, too); -4";
        for (int sort = 0; sort < 3; sort++) {
            BreatheOut x = told("y0020;b20000;b22200;b20000;x02;t77;");
            judgedBy(x, "so", -4, sort, 2, 5, 7);
            judgedBy(x, "told nothing", -4, sort);
            judgedBy(x, "fewer", -4, sort, 2);
            judgedBy(x, "the first", 0, sort, 3, 5, 7);
            judgedBy(x, "the second", 1, sort, 2, 4, 7);
            judgedBy(x, "the last", 2, sort, 2, 5, 8);
            judgedBy(x, "two not so", 1, sort, 2, 6, 8);
            judgedBy(x, "CLOCK itself", 0, sort, 79, 82, 84);
            judgedBy(x, "behind all", 3, sort, 2, 5, 7, 9);
            judgedBy(x, "behind all, 0 too", 3, sort, 2, 5, 7, 0);
            judgedBy(x, "behind all, -4 too", 3, sort, 2, 5, 7, -4);
            // ORDER 2, 1, 0: with 1 STUCK 2 alone is THROUGH.
            x.makes(1, 2, 30);
            judgedBy(x, "behind those who are THROUGH", 1, sort, 2, 5, 7);
            judgedBy(x, "as far as they are", -4, sort, 2);
            x.makes(2, 2, 30);
            judgedBy(x, "nobody THROUGH", 0, sort, 2);
            judgedBy(x, "nobody THROUGH, told nothing", -4, sort);
        }
        BreatheOut x = new BreatheOut();
        judgedBy(x, "nobody", 0, 0, 0);
        judgedBy(x, "nobody, told nothing", -4, 0);
        x = told("b20000;b20000;");
        judgedBy(x, "no YARDS: at once", -4, 0, 0, 0);
        judgedBy(x, "no YARDS: behind them", 2, 0, 0, 0, 0);
        x.row(0, 2, 100);
        due("a hundred", x.judge(0), 2);
        // 130 minutes are no byte: -126 is not so.
        x = told("y0911;y6911;y6911;y6911;y6911;y6911;y6911;y6911;y6911;b10900;");
        judgedBy(x, "137 minutes", -4, 1, 2 + 8 * 17);
        judgedBy(x, "138 minutes", 0, 1, 139);
        judgedBy(x, "what a byte keeps of 138", 0, 0, 138);
    }

    private static void judgedSkips() {
        about = "JUDGED: the least number of the SORT is skipped";
        int[] least = {-128, -32768, Integer.MIN_VALUE};
        for (int sort = 0; sort < 3; sort++) {
            BreatheOut x = told("y0020;b20000;b20000;");
            int skip = least[sort];
            judgedBy(x, "the first", -4, sort, skip, 4);
            judgedBy(x, "the last", -4, sort, 2, skip);
            judgedBy(x, "behind all", -4, sort, 2, 4, skip, skip);
            judgedBy(x, "not those behind", 3, sort, skip, skip, skip, 6);
            judgedBy(x, "one more than the least", 0, sort, skip + 1, 4);
            for (int other = 0; other < sort; other++) judgedBy(x, "the least of another", 1, sort, 2, least[other]);
        }
    }

    private static void parties() {
        about = "PARTIES: n (1 .. 20)";
        due("nobody", new BreatheOut().parties(20, 5, 0), 0);
        for (int n = 1; n <= 20; n++) {
            BreatheOut x = told("b20000;b20000;b20000;b20000;b20000;b20000;");
            due("THROUGH, " + n, x.parties(n, -n, 0), 6 * n);
            due("back, " + n, x.parties(n, n, 1), 6 * n);
            x = told("y0010;b20000;b20000;");
            due("none THROUGH, " + n, x.parties(n, n, 0), 0);
            due("none back, " + n, x.parties(n, n, 1), 0);
        }
    }

    /** The FEARS due are drawn with whole numbers that do not wrap. */
    private static void draws() {
        about = "A DRAW: an int, without its sign's bit";
        int[] seeds = {0, 1, -1, 12345, -12345, Integer.MAX_VALUE, Integer.MIN_VALUE, Integer.MIN_VALUE + 1, 1103515245, -1103515245, 65535, 65536};
        for (int z : seeds) {
            for (int room = 19; room < 24; room++) {
                int n = 20;
                // Size 20 and a third of FEAR: THROUGH if that is the room or less; one alone, so back if THROUGH.
                int[] due = counted(z, n, room, 0);
                BreatheOut x = told("y00" + room + ";b21000;b21000;");
                due("THROUGH, seed " + z + ", room " + room, x.parties(n, z, 0), due[0]);
                due("back, seed " + z + ", room " + room, x.parties(n, z, 1), due[1]);
                x.change(0, 1);
                int[] turned = counted(z, n, room, 1);
                due("by numbers, seed " + z + ", room " + room, x.parties(n, z, 0), turned[0]);
                due("by numbers, back, seed " + z + ", room " + room, x.parties(n, z, 1), turned[1]);
            }
        }
    }

    private static int[] fears(int z, int many) {
        int[] fears = new int[many];
        BigInteger two32 = BigInteger.ONE.shiftLeft(32);
        BigInteger seed = BigInteger.valueOf(z);
        for (int k = 0; k < many; k++) {
            seed = seed.multiply(BigInteger.valueOf(1103515245)).add(BigInteger.valueOf(12345)).mod(two32);
            fears[k] = seed.mod(BigInteger.ONE.shiftLeft(31)).divide(BigInteger.valueOf(65536)).mod(BigInteger.TEN).intValue();
        }
        return fears;
    }

    /** What changed since the last text, and since the last question, counts. */
    private static void asOfNow() {
        about = "from now, as it is";
        BreatheOut x = told("y0030;b20050;");
        due("posture", x.posture(0), 0);
        due("widest", x.widest(0), 30);
        due("calms", x.calms(0), 0);
        x.keep(0, 1, 0, 0);
        x.lays(0, 20);
        x.makes(0, 0, 9);
        due("19 and 3 in 20", x.posture(0), -4);
        due("c less 1 and 3 in 20", x.widest(0), 18);
        due("FEAR 5", x.calms(0), 60);
        x = told("y0020;b20330;");
        due("a BREATH there and back by FEAR", told("y0020;b21330;").haste(), 2);
        x.makes(0, 2, 22);
        due("a BREATH without FEAR, too", x.haste(), 0);
        x = told("y0020;b20010;");
        due("9 of 10", x.panic(0), 9);
        x.makes(0, 2, 30);
        due("none", x.panic(0), 0);
        x = told("y3020;b19000;");
        due("as it is", x.firstWays(), 0);
        x.makes(0, 2, 21);
        due("feet first", x.firstWays(), 2);
        x = told("y0020;b20000;");
        x.keep(0, 1, 0, 0);
        x.lays(0, 30);
        rowOf(x, 1, 0, 2, 0);
        due("22 .. 31", x.rock(0, 1, 0), 10);
        due("fits", x.forged(0, 1), -4);
        x.shorter();
        x.lays(0, 19);
        due("none", x.rock(0, 1, 0), 0);
        due("the second", x.forged(0, 1), 1);
        x = told("y0030;b20000;");
        due("all", x.parties(20, 1, 0), 20);
        x.makes(0, 2, 40);
        due("none", x.parties(20, 1, 0), 0);
        due("its FEAR is as it was", x.body(0, 2), 0);
        // On the way there YARD 0 is met at 58, on the way back at 60.
        x = told("y5020;y0020;b20000;r9;t58;");
        due("not STUCK there", x.posture(0), 0);
        due("not STUCK there", x.widest(0), 21);
        due("not STUCK there", x.calms(0), 0);
        due("STUCK on the way back", x.way(0, 1, 0), 0);
    }

    /** Two a party, equal but for FEAR; nobody helps, nothing changes on the way back. */
    private static int[] counted(int z, int n, int room, int first) {
        int[] fears = fears(z, 2 * n);
        int[] sums = new int[2];
        for (int k = 0; k < n; k++) {
            boolean one = 20 + fears[2 * k + first] / 3 <= room;
            boolean other = 20 + fears[2 * k + 1 - first] / 3 <= room;
            if (one) sums[0]++;
            if (one && other) sums[0]++;
            if (one && other) sums[1] += 2;
        }
        return sums;
    }
}
