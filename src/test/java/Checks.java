/** Counts and prints the answers that are not as due; each test's main ends with finish(). */
final class Checks {
    static final String BOUNDS = "IndexOutOfBoundsException";
    static final String ARGUMENT = "IllegalArgumentException";
    static final String STATE = "IllegalStateException";

    interface Call {
        void run();
    }

    private static int checked = 0;
    private static int wrong = 0;
    private static int sentences = 0;
    // The sentence that the checks hold now, for what is printed; empty as long as none was named.
    private static String sentence = "";
    private static int checkedBefore = 0;

    private Checks() {
    }

    /** The checks from here on hold this sentence of the document, word for word. */
    static void holds(String where, String words) {
        endSentence();
        sentences++;
        sentence = where + ", \"" + words + "\": ";
        checkedBefore = checked;
    }

    /** A sentence that was named and then not checked is wrong. */
    private static void endSentence() {
        if (!sentence.isEmpty() && checked == checkedBefore) {
            wrong++;
            System.out.println(sentence + "nothing was checked");
        }
    }

    static void due(String what, long got, long want) {
        due(what, "" + got, "" + want);
    }

    static void due(String what, boolean got, boolean want) {
        due(what, got ? 1 : 0, want ? 1 : 0);
    }

    static void due(String what, String got, String want) {
        checked++;
        if (!got.equals(want)) {
            wrong++;
            System.out.println(sentence + what + ": answered " + got + ", due is " + want);
        }
    }

    /** The call must throw just the exception of that simple name. */
    static void refused(String what, String exception, Call call) {
        due(what + " throws", thrownBy(call), exception);
    }

    /** A village with people 0, 1, .. at the servers that are listed. */
    static Villagepost village(int... servers) {
        Villagepost x = new Villagepost();
        for (int server : servers) {
            x.person(server);
        }
        return x;
    }

    /** Delivers all that waits anywhere, until nothing waits. */
    static void settle(Villagepost x) {
        boolean some = true;
        while (some) {
            some = false;
            for (int server = 0; server < 4; server++) {
                if (x.deliver(server) != Villagepost.NONE) {
                    some = true;
                }
            }
        }
    }

    /** Makes one a follower of the other, as all servers know that are asked for it. */
    static void makeFollower(Villagepost x, int person, int other) {
        x.follow(person, other);
        settle(x);
        x.answer(other, person, true);
        settle(x);
    }

    static void home(String what, Villagepost x, int person, int... posts) {
        for (int i = 0; i < posts.length; i++) {
            due(what + ", home of " + person + " at " + i, x.home(person, i), posts[i]);
        }
        due(what + ", home of " + person + " behind the last", x.home(person, posts.length), Villagepost.NONE);
    }

    /** The next packets to a server must hold acts of these kinds. */
    static void delivers(Villagepost x, int server, int... kinds) {
        for (int kind : kinds) {
            due("packet at " + server, x.deliver(server), kind);
        }
    }

    /** The six numbers of a server: packets, acts, known posts, marks, follows, asks. */
    static void numbers(String what, Villagepost x, int server, int... want) {
        for (int number = 0; number < want.length; number++) {
            due(what + ", number " + number + " of server " + server, x.ofServer(server, number), want[number]);
        }
    }

    /** How many packets wait at the servers 0 to 3, as four digits. */
    static long waiting(Villagepost x) {
        return x.ofServer(0, 0) * 1000 + x.ofServer(1, 0) * 100 + x.ofServer(2, 0) * 10 + x.ofServer(3, 0);
    }

    /** The simple name of what a call throws. */
    static String thrownBy(Call call) {
        try {
            call.run();
            return "nothing";
        } catch (RuntimeException e) {
            return nameOf(e);
        }
    }

    /** The simple name of an exception; one that the library has thrown, not the class itself, is named as such. */
    static String nameOf(RuntimeException e) {
        StackTraceElement[] trace = e.getStackTrace();
        boolean own = trace.length > 0 && trace[0].getClassName().startsWith("Villagepost");
        return e.getClass().getSimpleName() + (own ? "" : " by itself");
    }

    static void finish(String test) {
        endSentence();
        String held = sentences == 0 ? "" : sentences + " sentences, ";
        System.out.println(test + ": " + held + checked + " checks, " + wrong + " wrong");
        if (wrong != 0) {
            System.exit(1);
        }
    }
}
