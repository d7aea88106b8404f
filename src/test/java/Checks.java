/** What the tests with answers worked out by hand share. */
abstract class Checks {
    static int wrong = 0;
    static String about = "";

    static void due(String call, long got, long want) {
        if (got != want) {
            wrong++;
            System.out.println(about + ": " + call + " answered " + got + ", due is " + want);
        }
    }

    /** Puts a text on shelf 7 and has the cave told by it. */
    static int tell(BreatheOut x, String text) {
        rowOf(x, 7, 0, text);
        return x.cave(7);
    }

    static BreatheOut told(String text) {
        BreatheOut x = new BreatheOut();
        int statements = text.length() - text.replace(";", "").length();
        due("cave " + text, tell(x, text), statements);
        return x;
    }

    static void rowOf(BreatheOut x, int d, int sort, String text) {
        x.row(d, sort, text.length());
        for (int i = 0; i < text.length(); i++) x.put(d, i, text.charAt(i));
    }

    static void rowOf(BreatheOut x, int d, int sort, int... numbers) {
        x.row(d, sort, numbers.length);
        for (int i = 0; i < numbers.length; i++) x.put(d, i, numbers[i]);
    }

    /** 1 IllegalArgumentException, 2 IllegalStateException, 3 any other, 0 nothing. */
    static int thrown(BreatheOut x, int d, int i) {
        try {
            x.element(d, i);
        } catch (RuntimeException e) {
            return e.getClass() == IllegalArgumentException.class ? 1 : e.getClass() == IllegalStateException.class ? 2 : 3;
        }
        return 0;
    }

    static void end(String all) {
        System.out.println(wrong == 0 ? all : wrong + " answers are not as due");
        if (wrong != 0) System.exit(1);
    }
}
