import java.util.function.LongSupplier;

/** What the tests of the project share: how an answer is judged, and how it is told that a call has changed nothing. */
abstract class Checks {
    static final Class<?> INDEX = IndexOutOfBoundsException.class;
    static final Class<?> ARGUMENT = IllegalArgumentException.class;
    static final Class<?> STATE = IllegalStateException.class;
    static final int LOW = Integer.MIN_VALUE;
    static final int HIGH = Integer.MAX_VALUE;

    static int wrong = 0;

    /** What is being tested: the beginning of each fault's line. */
    static String about = "";

    interface Call {
        void run();
    }

    interface CallOn {
        void run(CanyonEchoes x);
    }

    /** Makes the same canyon each time. */
    interface Recipe {
        CanyonEchoes make();
    }

    static void fail(String what) {
        wrong++;
        System.out.println(about + ": " + what);
    }

    static void due(String what, long got, long want) {
        if (got != want) {
            fail(what + " answered " + got + ", due is " + want);
        }
    }

    static void due(String what, boolean got, boolean want) {
        if (got != want) {
            fail(what + " answered " + got + ", due is " + want);
        }
    }

    static void due(String what, double got, double want) {
        if (got != want) {
            fail(what + " answered " + got + ", due is " + want);
        }
    }

    /** The exact class of what the call throws; null if it throws nothing. */
    static Class<?> thrownBy(Call call) {
        try {
            call.run();
        } catch (RuntimeException e) {
            return e.getClass();
        }
        return null;
    }

    /** The call throws exactly this class, no subclass of it, and changes nothing of the digest. */
    static void refused(CanyonEchoes x, String what, Class<?> want, Call call) {
        long before = x.digest();
        Class<?> got = thrownBy(call);
        if (got != want) {
            fail(what + " throws " + got + ", due is " + want);
        }
        if (x.digest() != before) {
            fail(what + " changed something");
        }
    }

    /** The call answers this and changes nothing of the digest. */
    static void foreseen(CanyonEchoes x, String what, long want, LongSupplier call) {
        long before = x.digest();
        due(what, call.getAsLong(), want);
        if (x.digest() != before) {
            fail(what + " changed something");
        }
    }

    /** The call throws exactly this class, and the canyon then answers as its twin that was never asked. */
    static void refusedIn(Recipe recipe, String what, Class<?> want, CallOn call) {
        CanyonEchoes x = recipe.make();
        Class<?> got = thrownBy(() -> call.run(x));
        if (got != want) {
            fail(what + " throws " + got + ", due is " + want);
        }
        likeItsTwin(recipe, what, x);
    }

    /** The call throws nothing, and the canyon then answers as its twin that was never asked. */
    static void changesNothingIn(Recipe recipe, String what, CallOn call) {
        refusedIn(recipe, what, null, call);
    }

    private static void likeItsTwin(Recipe recipe, String what, CanyonEchoes x) {
        CanyonEchoes twin = recipe.make();
        if (!portrait(x).equals(portrait(twin))) {
            fail(what + " changed something");
            return;
        }
        // What no answer of the present shows comes out in the beats that follow.
        for (int beats : new int[] {1, 11, 40}) {
            if (x.pass(beats) != twin.pass(beats) || x.digest() != twin.digest()) {
                fail(what + " changed what comes later");
                return;
            }
        }
    }

    /** Every answer about the present, in a text; fewer than 400 calls, so that an object stays below its 512. */
    private static String portrait(CanyonEchoes x) {
        StringBuilder s = new StringBuilder();
        int walls = x.walls();
        int shouts = x.shouts();
        add(s, x.beat(), walls, shouts, x.underWay(), x.overlaps(), x.inherited());
        for (int i = 0; i < 32; i++) {
            add(s, x.snowOn(i), x.wallOn(i), x.loudOn(i), x.nextWall(i, true), x.nextWall(i, false));
        }
        for (int i = 0; i < walls; i++) {
            int stone = x.stoneOf(i);
            // What a wall soaks up is shown by a shout alone that comes to it from beside it.
            int soaks = stone > 0 ? x.loudnessWanted(stone - 1, true, stone) : x.loudnessWanted(1, false, 0);
            add(s, stone, x.ownerOf(i), x.thrownBack(i), soaks);
        }
        for (int i = 0; i < 2; i++) {
            add(s, x.coinsOf(i), x.wallsOf(i), x.silentFor(i));
        }
        for (int i = 0; i < shouts; i++) {
            add(s, x.loudnessOf(i), x.placeOf(i), x.goesRight(i) ? 1 : 0, x.turnsOf(i));
        }
        return s.append(x.meanLoudness()).append(' ').append(x.digest()).toString();
    }

    private static void add(StringBuilder s, int... numbers) {
        for (int x : numbers) {
            s.append(x).append(' ');
        }
    }

    /** Ends the test: the exit code is 1 if there was a fault. */
    static void finish(String fine) {
        System.out.println(wrong == 0 ? fine : wrong + " faults");
        if (wrong != 0) {
            System.exit(1);
        }
    }
}
