/** Servers, packets and what is done where: the section "Servers, people, acts", and promises 12 and 13. */
public final class PacketsSentencesTest {
    private static final int NONE = Villagepost.NONE;
    private static final String NOT_AGAIN = "an act that was done at a server already is not done there again";

    public static void main(String[] args) {
        servers();
        doneAtOnce();
        nothingElse();
        eachServerOnce();
        doneAsDelivered();
        inTheOrderSent();
        deliverNone();
        deliverKinds();
        repeatNone();
        repeatTheLast();
        asksAreNotRepeated();
        followsAreNotRepeated();
        postsAreNotRepeated();
        notCountedAgain();
        asAServerKnowsIt();
        Checks.finish("PacketsSentencesTest");
    }

    private static void servers() {
        Checks.holds("Terms", "There are the servers 0 to 3.");
        for (int a = 0; a < 4; a++) {
            for (int b = 0; b < 4; b++) {
                Villagepost x = Checks.village(a, b);
                x.follow(0, 1);
                Checks.due("known at " + a, x.between(a, 0, 1), 1);
                Checks.due("waits at " + b, x.ofServer(b, 0), a == b ? 0 : 1);
                Checks.due("delivered to " + b, x.deliver(b), a == b ? NONE : Villagepost.FOLLOW);
                Checks.due("known at " + b, x.between(b, 0, 1), 1);
                Checks.due("waits nowhere", Checks.waiting(x), 0);
            }
        }
    }

    private interface Deed {
        void of(Villagepost x);
    }

    /** 0 at server 0 follows and asks, is asked and blocks; what each further act of 0 needs is there. */
    private static Villagepost ready() {
        Villagepost x = Checks.village(0, 1, 2, 3);
        Checks.makeFollower(x, 0, 1);
        Checks.makeFollower(x, 2, 0);
        x.follow(1, 0);
        x.block(0, 3, true);
        x.alias(2, 0);
        x.post(1, Villagepost.PUBLIC, 0, NONE);
        x.post(0, Villagepost.PUBLIC, 2, NONE);
        Checks.settle(x);
        return x;
    }

    private static final Deed[] DEEDS = {
        x -> x.follow(0, 2),
        x -> x.answer(0, 1, true),
        x -> x.answer(0, 1, false),
        x -> x.leave(0, 1),
        x -> x.block(0, 1, true),
        x -> x.block(0, 3, false),
        x -> x.alias(0, 3),
        x -> x.move(0, 2),
        x -> x.post(0, Villagepost.FOLLOWERS, 8, NONE),
        x -> x.delete(1),
        x -> x.boost(0, 0),
    };
    // To which servers each of these goes.
    private static final int[] TO = {10, 100, 100, 100, 100, 1, 1, 10, 11, 110, 110};

    // By how much each changes the numbers of server 0: packets, acts, known posts, marks, follows, asks.
    private static final int[][] CHANGES = {
        {0, 1, 0, 0, 0, 1},
        {0, 1, 0, 0, 1, -1},
        {0, 1, 0, 0, 0, -1},
        {0, 1, 0, 0, -1, 0},
        {0, 1, 0, 0, -1, -1},
        {0, 1, 0, 0, 0, 0},
        {0, 1, 0, 0, 0, 0},
        {0, 1, 0, 0, -1, 0},
        {0, 1, 1, 0, 0, 0},
        {0, 1, -1, 1, 0, 0},
        {0, 1, 0, 0, 0, 0},
    };

    private static void nothingElse() {
        Checks.holds("Terms; promise 14", "Each act of somebody is done at their server at once");
        for (int kind = 0; kind < DEEDS.length; kind++) {
            Villagepost x = ready();
            int[] want = new int[6];
            for (int what = 0; what < 6; what++) {
                want[what] = x.ofServer(0, what) + CHANGES[kind][what];
            }
            DEEDS[kind].of(x);
            Checks.numbers("act " + kind, x, 0, want);
        }
    }

    private static void doneAtOnce() {
        Checks.holds("Terms", "Each act of somebody is done at their server at once, and goes in a packet to other servers, by numbers, each once, as told");
        for (int kind = 0; kind < DEEDS.length; kind++) {
            Villagepost x = ready();
            int[] before = new int[4];
            for (int server = 0; server < 4; server++) {
                before[server] = x.ofServer(server, 1);
            }
            DEEDS[kind].of(x);
            for (int server = 0; server < 4; server++) {
                Checks.due("act " + kind + " at " + server, x.ofServer(server, 1) - before[server], server == 0 ? 1 : 0);
            }
            Checks.due("packets of act " + kind, Checks.waiting(x), TO[kind]);
        }
    }

    private static void eachServerOnce() {
        Checks.holds("Terms", "goes in a packet to other servers, by numbers, each once");
        Villagepost x = Checks.village(1, 0, 0, 2, 2, 3, 3, 1);
        for (int person = 1; person < 8; person++) {
            Checks.makeFollower(x, person, 0);
        }
        x.post(0, Villagepost.PUBLIC, 255, NONE);
        Checks.due("a post", Checks.waiting(x), 1011);
        Checks.settle(x);
        x.boost(0, 0);
        Checks.due("a boost", Checks.waiting(x), 1011);
        Checks.settle(x);
        x.delete(0);
        Checks.due("a mark", Checks.waiting(x), 1011);
        x.alias(7, 0);
        Checks.settle(x);
        x.move(0, 7);
        Checks.due("a move", Checks.waiting(x), 1011);
    }

    private static void doneAsDelivered() {
        Checks.holds("Terms; promise 12", "it is done there as the packet is delivered");
        for (int kind = 0; kind < DEEDS.length; kind++) {
            Villagepost x = ready();
            DEEDS[kind].of(x);
            for (int server = 1; server < 4; server++) {
                int acts = x.ofServer(server, 1);
                int waits = x.ofServer(server, 0);
                Checks.due("packet of act " + kind + " at " + server, x.deliver(server), waits == 0 ? NONE : kind);
                Checks.due("done at " + server, x.ofServer(server, 1), acts + waits);
                Checks.due("waits no more at " + server, x.ofServer(server, 0), 0);
            }
        }
    }

    private static void inTheOrderSent() {
        Checks.holds("Terms; promise 12", "Packets wait for a server in the order in which they were sent.");
        Villagepost x = Checks.village(0, 1, 2, 3);
        x.alias(3, 1);
        x.follow(0, 1);
        x.block(2, 1, true);
        x.post(0, Villagepost.PUBLIC, 2 + 4, NONE);
        x.leave(0, 1);
        Checks.due("five and one wait", Checks.waiting(x), 510);
        Checks.delivers(x, 1, Villagepost.ALIAS, Villagepost.FOLLOW, Villagepost.BLOCK);
        x.block(2, 1, false);
        Checks.delivers(x, 1, Villagepost.POST, Villagepost.LEAVE, Villagepost.UNBLOCK, NONE);
        Checks.due("one waits at 2", Checks.waiting(x), 10);
        Checks.delivers(x, 2, Villagepost.POST, NONE);
        // A packet that is sent on as another one is delivered stands behind what waits already.
        Villagepost y = Checks.village(0, 1, 2);
        Checks.makeFollower(y, 2, 0);
        y.post(0, Villagepost.PUBLIC, 2, NONE);
        Checks.settle(y);
        y.post(1, Villagepost.PUBLIC, 0, 0);
        y.alias(1, 2);
        Checks.delivers(y, 0, Villagepost.POST);
        y.block(1, 2, true);
        Checks.delivers(y, 2, Villagepost.ALIAS, Villagepost.POST, Villagepost.BLOCK, NONE);
    }

    private static void deliverNone() {
        Checks.holds("Promise 12", "Returns FOLLOW to BOOST; NONE if none waits.");
        Villagepost x = Checks.village(0, 1);
        x.follow(0, 1);
        for (int server = 0; server < 4; server++) {
            Checks.due("packet at " + server, x.deliver(server), server == 1 ? Villagepost.FOLLOW : NONE);
        }
        for (int i = 0; i < 3; i++) {
            Checks.due("none any more", x.deliver(1), NONE);
            Checks.due("none does not count", x.ofServer(1, 0) * 10 + x.ofServer(1, 1), 1);
        }
        x.leave(0, 1);
        Checks.delivers(x, 1, Villagepost.LEAVE, NONE);
    }

    private static void deliverKinds() {
        Checks.holds("Promises 12 and 13", "Returns FOLLOW to BOOST");
        int[] at = {2, 1, 1, 1, 1, 3, 3, 2, 3, 1, 1};
        for (int kind = 0; kind < DEEDS.length; kind++) {
            Villagepost x = ready();
            DEEDS[kind].of(x);
            Checks.due("delivered", x.deliver(at[kind]), kind);
            Checks.due("repeated", x.repeat(at[kind]), kind);
        }
    }

    private static void repeatNone() {
        Checks.holds("Promise 13", "Returns FOLLOW to BOOST; NONE if none was.");
        Villagepost x = Checks.village(0, 1);
        x.follow(0, 1);
        for (int server = 0; server < 4; server++) {
            Checks.due("none was delivered to " + server, x.repeat(server), NONE);
        }
        Checks.due("what waits is not delivered", x.ofServer(1, 0) * 10 + x.ofServer(1, 1), 10);
        x.deliver(0);
        Checks.due("an empty delivery is none", x.repeat(0), NONE);
        x.deliver(1);
        Checks.due("one was", x.repeat(1), Villagepost.FOLLOW);
        Checks.due("not to others", x.repeat(0), NONE);
    }

    private static void repeatTheLast() {
        Checks.holds("Terms; promise 13", "The one that was delivered last can be repeated");
        Villagepost x = Checks.village(0, 1);
        x.follow(0, 1);
        x.leave(0, 1);
        x.alias(0, 1);
        Checks.delivers(x, 1, Villagepost.FOLLOW);
        for (int i = 0; i < 3; i++) {
            Checks.due("as often as one likes", x.repeat(1), Villagepost.FOLLOW);
        }
        Checks.due("two wait still", x.ofServer(1, 0), 2);
        Checks.delivers(x, 1, Villagepost.LEAVE);
        Checks.due("the last one", x.repeat(1), Villagepost.LEAVE);
        Checks.delivers(x, 1, Villagepost.ALIAS, NONE);
        Checks.due("the last one, though none came then", x.repeat(1), Villagepost.ALIAS);
        x.block(1, 0, true);
        Checks.due("an act at home is not delivered", x.repeat(1), Villagepost.ALIAS);
        Checks.delivers(x, 0, Villagepost.BLOCK);
        Checks.due("each server has its own", x.repeat(0) * 100 + x.repeat(1), 406);
    }

    private static void asksAreNotRepeated() {
        Checks.holds("Terms; promise 13", NOT_AGAIN);
        Villagepost x = Checks.village(0, 1);
        x.follow(0, 1);
        Checks.delivers(x, 1, Villagepost.FOLLOW);
        x.answer(1, 0, false);
        Checks.due("an ask that was refused", x.repeat(1), Villagepost.FOLLOW);
        Checks.due("is not asked again", x.between(1, 0, 1), 0);
        Checks.delivers(x, 0, Villagepost.REFUSE);
        x.follow(0, 1);
        Checks.due("a refusal of the first ask", x.repeat(0), Villagepost.REFUSE);
        Checks.due("does not take the second one away", x.between(0, 0, 1), 1);
        Checks.delivers(x, 1, Villagepost.FOLLOW);
        x.answer(1, 0, true);
        Checks.due("an ask that was accepted", x.repeat(1), Villagepost.FOLLOW);
        Checks.due("follows still", x.between(1, 0, 1), 2);
        Checks.delivers(x, 0, Villagepost.ACCEPT);
        x.leave(0, 1);
        x.follow(0, 1);
        Checks.due("an accept of the former ask", x.repeat(0), Villagepost.ACCEPT);
        Checks.due("does not accept the new one", x.between(0, 0, 1), 1);
    }

    private static void followsAreNotRepeated() {
        Checks.holds("Terms; promise 13", NOT_AGAIN);
        // Server 2 hears of the move of 0 to 1 last; then 2 leaves 1.
        Villagepost x = Checks.village(0, 1, 2);
        Checks.makeFollower(x, 2, 0);
        x.alias(1, 0);
        Checks.settle(x);
        x.move(0, 1);
        Checks.delivers(x, 2, Villagepost.MOVE);
        x.leave(2, 1);
        Checks.due("a move", x.repeat(2), Villagepost.MOVE);
        Checks.due("does not take along again", x.between(2, 2, 1), 0);
        // Server 1 hears that 0 leaves 1; then a move that is done there makes 0 a follower once more.
        Villagepost y = Checks.village(0, 1, 1);
        Checks.makeFollower(y, 0, 1);
        Checks.makeFollower(y, 0, 2);
        y.alias(1, 2);
        y.leave(0, 1);
        Checks.delivers(y, 1, Villagepost.LEAVE);
        y.move(2, 1);
        Checks.due("follows anew", y.between(1, 0, 1), 2);
        Checks.due("a leave", y.repeat(1), Villagepost.LEAVE);
        Checks.due("does not take the new follow away", y.between(1, 0, 1), 2);
    }

    private static void postsAreNotRepeated() {
        Checks.holds("Terms; promise 13", NOT_AGAIN);
        Villagepost x = Checks.village(0, 1, 2);
        Checks.makeFollower(x, 2, 0);
        x.post(0, Villagepost.PUBLIC, 2, NONE);
        Checks.settle(x);
        x.post(1, Villagepost.PUBLIC, 0, 0);
        Checks.delivers(x, 0, Villagepost.POST);
        Checks.due("a reply", x.repeat(0), Villagepost.POST);
        Checks.due("is not sent on again", Checks.waiting(x), 10);
        x.delete(1);
        Checks.delivers(x, 0, Villagepost.DELETE);
        Checks.due("a mark", x.repeat(0), Villagepost.DELETE);
        Checks.due("is not sent on again", Checks.waiting(x), 20);
        x.boost(1, 0);
        Checks.delivers(x, 0, Villagepost.BOOST);
        x.delete(0);
        Checks.due("a boost of what was deleted then", x.repeat(0), Villagepost.BOOST);
        Checks.due("does not bring it back", x.ofServer(0, 2), 0);
    }

    private static void notCountedAgain() {
        Checks.holds("Terms; promises 13 and 14", NOT_AGAIN);
        int[] at = {2, 1, 1, 1, 1, 3, 3, 2, 3, 1, 1};
        for (int kind = 0; kind < DEEDS.length; kind++) {
            Villagepost x = ready();
            DEEDS[kind].of(x);
            x.deliver(at[kind]);
            int[] before = new int[6];
            for (int what = 0; what < 6; what++) {
                before[what] = x.ofServer(at[kind], what);
            }
            x.repeat(at[kind]);
            x.repeat(at[kind]);
            Checks.numbers("repeated " + kind, x, at[kind], before);
        }
    }

    private static void asAServerKnowsIt() {
        Checks.holds("Terms", "What follows is as a server knows it: what was done there.");
        Villagepost x = Checks.village(0, 1, 2);
        x.follow(0, 1);
        x.block(1, 2, true);
        x.post(2, Villagepost.PUBLIC, 1, NONE);
        int[][] want = {{1, 0, 0}, {0, 4, 0}, {0, 0, 0}, {0, 0, 0}};
        for (int server = 0; server < 4; server++) {
            Checks.due("0 and 1 at " + server, x.between(server, 0, 1), want[server][0]);
            Checks.due("1 and 2 at " + server, x.between(server, 1, 2), want[server][1]);
            Checks.due("posts at " + server, x.ofServer(server, 2), server == 2 ? 1 : 0);
        }
        for (int person = 0; person < 3; person++) {
            Checks.due("sees as their own server knows", x.sees(person, 0), person == 2);
        }
        Checks.settle(x);
        Checks.due("known at 2", x.between(2, 1, 2), 4);
        Checks.due("never known at 0, where it did not go", x.between(0, 1, 2), 0);
        Checks.due("never known at 2, where it did not go", x.between(2, 0, 1), 0);
        Checks.due("seen", x.sees(0, 0), true);
    }
}
