/** Counts and prints the answers that are not as due; each test's main ends with finish(). */
final class Checks {
    static final String BOUNDS = "IndexOutOfBoundsException";
    static final String ARGUMENT = "IllegalArgumentException";
    static final String STATE = "IllegalStateException";

    interface Call {
        void run();
    }

    private static int checked = 0;
    private static int wrong = 0;

    private Checks() {
    }

    static void due(String what, long got, long want) {
        checked++;
        if (got != want) {
            wrong++;
            System.out.println(what + ": answered " + got + ", due is " + want);
        }
    }

    static void due(String what, boolean got, boolean want) {
        due(what, got ? 1 : 0, want ? 1 : 0);
    }

    static void due(String what, String got, String want) {
        checked++;
        if (!got.equals(want)) {
            wrong++;
            System.out.println(what + ": answered " + got + ", due is " + want);
        }
    }

    /** The call must throw just the exception of that simple name. */
    static void refused(String what, String exception, Call call) {
        due(what + " throws", thrownBy(call), exception);
    }

    /** A village with people 0, 1, .. at the servers that are listed. */
    static Villagepost village(int... servers) {
        Villagepost x = new Villagepost();
        for (int server : servers) {
            x.person(server);
        }
        return x;
    }

    /** Delivers all that waits anywhere, until nothing waits. */
    static void settle(Villagepost x) {
        boolean some = true;
        while (some) {
            some = false;
            for (int server = 0; server < 4; server++) {
                if (x.deliver(server) != Villagepost.NONE) {
                    some = true;
                }
            }
        }
    }

    /** Makes one a follower of the other, as all servers know that are asked for it. */
    static void makeFollower(Villagepost x, int person, int other) {
        x.follow(person, other);
        settle(x);
        x.answer(other, person, true);
        settle(x);
    }

    static void home(String what, Villagepost x, int person, int... posts) {
        for (int i = 0; i < posts.length; i++) {
            due(what + ", home of " + person + " at " + i, x.home(person, i), posts[i]);
        }
        due(what + ", home of " + person + " behind the last", x.home(person, posts.length), Villagepost.NONE);
    }

    /** How many packets wait at the servers 0 to 3, as four digits. */
    static long waiting(Villagepost x) {
        return x.ofServer(0, 0) * 1000 + x.ofServer(1, 0) * 100 + x.ofServer(2, 0) * 10 + x.ofServer(3, 0);
    }

    private static String thrownBy(Call call) {
        try {
            call.run();
            return "nothing";
        } catch (RuntimeException e) {
            return e.getClass().getSimpleName();
        }
    }

    static void finish(String test) {
        System.out.println(test + ": " + checked + " checks, " + wrong + " wrong");
        if (wrong != 0) {
            System.exit(1);
        }
    }
}
