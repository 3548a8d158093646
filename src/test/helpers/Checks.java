import java.util.concurrent.Callable;

/** What the tests share: they compare answers, ask for exceptions and write paths. */
abstract class Checks {
    static final String BOUNDS = "IndexOutOfBoundsException";
    static final String ARGUMENT = "IllegalArgumentException";
    static final String STATE = "IllegalStateException";
    static final int LOWEST = Integer.MIN_VALUE;
    static final int HIGHEST = Integer.MAX_VALUE;
    static final int NONE = -1;
    static final int GAUGE = 0;
    static final int COUNTER = 1;
    static final int NEITHER = 0;
    static final int HIDDEN = 1;
    static final int SHOWN = 2;

    private static final int MOST_TOLD = 50;

    private static String about = "";
    private static int checks = 0;
    private static int wrong = 0;

    static void about(String what) {
        about = what;
    }

    static void due(String what, int want, int got) {
        due(what, Integer.toString(want), Integer.toString(got));
    }

    static void due(String what, String want, String got) {
        checks++;
        if (!got.equals(want)) {
            wrong++;
            tell(what + ": answered " + got + ", due is " + want);
        }
    }

    private static void tell(String what) {
        if (wrong <= MOST_TOLD) {
            System.out.println(about + ": " + what);
        }
    }

    static void thrown(String what, String want, Callable<Object> call) {
        due(what + ", exception", want, nameOfThrown(call));
    }

    static String nameOfThrown(Callable<Object> call) {
        try {
            call.call();
            return "nothing";
        } catch (Exception e) {
            return e.getClass().getSimpleName() + thrower(e);
        }
    }

    // The class is to throw by itself, not to leave it to a list or to the machine.
    private static String thrower(Exception e) {
        String name = e.getStackTrace()[0].getClassName();
        return name.startsWith("Managetree") ? "" : " from " + name;
    }

    static Object marks(Managetree x, int agent, int low, int high) {
        x.setMarks(agent, low, high);
        return null;
    }

    static void path(Managetree x, int... numbers) {
        x.wipe();
        for (int number : numbers) {
            x.write(number);
        }
    }

    static void pathIs(Managetree x, int... numbers) {
        for (int place = 0; place < 4; place++) {
            due("number " + place, place < numbers.length ? numbers[place] : NONE, x.numberAt(place));
        }
    }

    /** Ends the program: with exit code 1 if a check failed. */
    static void end() {
        System.out.println(wrong == 0 ? checks + " checks, all as due" : wrong + " of " + checks + " checks failed");
        if (wrong != 0) {
            System.exit(1);
        }
    }
}
