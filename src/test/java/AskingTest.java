/** Promises 14 to 18: ofServer, between, sees, seesAnew and home. */
public final class AskingTest {
    public static void main(String[] args) {
        ofServer();
        ofServerWrong();
        between();
        sees();
        seesWithBlock();
        seesAnew();
        seesWrong();
        home();
        homeWrong();
        Checks.finish("AskingTest");
    }

    private static void ofServer() {
        Villagepost x = Checks.village(0, 1, 2);
        x.follow(1, 0);
        x.follow(2, 0);
        x.follow(0, 1);
        Checks.numbers("14", x, 0, 2, 1, 0, 0, 0, 1);
        Checks.numbers("14", x, 1, 1, 1, 0, 0, 0, 1);
        Checks.settle(x);
        Checks.numbers("14", x, 0, 0, 3, 0, 0, 0, 3);
        x.answer(0, 1, true);
        Checks.numbers("14", x, 0, 0, 4, 0, 0, 1, 2);
        x.post(0, 0, 0, -1);
        x.post(0, 2, 2, -1);
        x.post(0, 2, 0, -1);
        x.delete(1);
        Checks.numbers("14", x, 0, 0, 8, 2, 1, 1, 2);
        Checks.numbers("14", x, 1, 4, 2, 0, 0, 0, 2);
        Checks.settle(x);
        Checks.numbers("14", x, 1, 0, 6, 1, 1, 1, 1);
        Checks.numbers("14", x, 2, 0, 1, 0, 0, 0, 1);
        Checks.numbers("14", x, 3, 0, 0, 0, 0, 0, 0);
    }

    private static void ofServerWrong() {
        Villagepost x = new Villagepost();
        Checks.refused("14: server 4", Checks.BOUNDS, () -> x.ofServer(4, 0));
        Checks.refused("14: server -1", Checks.BOUNDS, () -> x.ofServer(-1, 0));
        Checks.refused("14: no server, before what", Checks.BOUNDS, () -> x.ofServer(4, 6));
        Checks.refused("14: what 6", Checks.ARGUMENT, () -> x.ofServer(0, 6));
        Checks.refused("14: what -1", Checks.ARGUMENT, () -> x.ofServer(0, -1));
    }

    private static void between() {
        Villagepost x = Checks.village(0, 0, 1);
        Checks.due("15: oneself", x.between(0, 0, 0), 0);
        x.follow(0, 1);
        Checks.due("15: asks", x.between(0, 0, 1), 1);
        x.answer(1, 0, true);
        Checks.due("15: follows", x.between(0, 0, 1), 2);
        x.block(1, 2, true);
        Checks.due("15: blocks", x.between(0, 1, 2), 4);
        Checks.due("15: who is blocked does not block", x.between(0, 2, 1), 0);
        Checks.due("15: another server", x.between(1, 0, 1), 0);
        Checks.due("15: a server with nobody", x.between(3, 0, 1), 0);
        Checks.refused("15: server -1", Checks.BOUNDS, () -> x.between(-1, 0, 1));
        Checks.refused("15: server 4", Checks.BOUNDS, () -> x.between(4, 0, 1));
        Checks.refused("15: no such person", Checks.BOUNDS, () -> x.between(0, 3, 1));
        Checks.refused("15: person -1", Checks.BOUNDS, () -> x.between(0, -1, 1));
        Checks.refused("15: no such other", Checks.BOUNDS, () -> x.between(0, 0, 3));
        Checks.refused("15: other -1", Checks.BOUNDS, () -> x.between(0, 0, -1));
    }

    private static void both(String what, Villagepost x, int person, int post, boolean want) {
        Checks.due("16: " + what, x.sees(person, post), want);
        Checks.due("17: " + what, x.seesAnew(person, post), want);
    }

    private static void sees() {
        // 1 follows 0, 2 asks 0, 3 is named, 4 has nothing to do with 0.
        Villagepost x = Checks.village(0, 1, 1, 1, 1);
        Checks.makeFollower(x, 1, 0);
        x.follow(2, 0);
        x.post(0, Villagepost.PUBLIC, 8, -1);
        x.post(0, Villagepost.FOLLOWERS, 8, -1);
        x.post(0, Villagepost.DIRECT, 8, -1);
        x.post(0, Villagepost.DIRECT, 0, -1);
        for (int post = 0; post < 4; post++) {
            both("one's own", x, 0, post, true);
            both("not known there", x, 1, post, false);
            both("not known there", x, 3, post, false);
        }
        Checks.settle(x);
        boolean[][] want = {
            {true, true, true, true, true},
            {true, true, false, true, false},
            {true, false, false, true, false},
            {true, false, false, false, false},
        };
        for (int post = 0; post < 4; post++) {
            for (int person = 0; person < 5; person++) {
                both("post " + post + " by " + person, x, person, post, want[post][person]);
            }
        }
        x.leave(1, 0);
        both("follows no more", x, 1, 1, false);
        both("public still", x, 1, 0, true);
        x.delete(0);
        both("deleted", x, 0, 0, false);
        both("not deleted there yet", x, 3, 0, true);
        Checks.settle(x);
        both("deleted there", x, 3, 0, false);
    }

    private static void seesWithBlock() {
        Villagepost x = Checks.village(0, 1, 2);
        x.post(0, Villagepost.PUBLIC, 6, -1);
        x.post(1, Villagepost.DIRECT, 1, -1);
        Checks.settle(x);
        x.block(0, 1, true);
        both("hidden from who blocks", x, 0, 1, false);
        both("not from who does not know of it", x, 1, 0, true);
        Checks.settle(x);
        both("hidden from who is blocked, though named", x, 1, 0, false);
        both("not from others", x, 2, 0, true);
        both("not one's own", x, 0, 0, true);
        x.block(0, 1, false);
        both("seen again", x, 0, 1, true);
        both("not known there yet", x, 1, 0, false);
        Checks.settle(x);
        both("seen again", x, 1, 0, true);
    }

    private static void seesAnew() {
        // A log with every kind of act, in which the order matters.
        Villagepost x = Checks.village(0, 1, 1, 2);
        Checks.makeFollower(x, 2, 0);
        Checks.makeFollower(x, 3, 1);
        x.follow(0, 1);
        Checks.settle(x);
        x.answer(1, 0, false);
        x.alias(1, 0);
        Checks.settle(x);
        x.post(1, Villagepost.FOLLOWERS, 0, -1);
        x.move(0, 1);
        Checks.settle(x);
        both("followed by a move", x, 2, 0, true);
        both("who moved does not follow", x, 0, 0, false);
        both("a follower", x, 3, 0, true);
        x.block(2, 1, true);
        both("blocked", x, 2, 0, false);
        x.block(2, 1, false);
        both("a block undoes the follow", x, 2, 0, false);
        x.post(1, Villagepost.PUBLIC, 0, -1);
        both("public", x, 2, 1, true);
        x.boost(1, 1);
        x.delete(1);
        both("deleted", x, 2, 1, false);
        Checks.settle(x);
        both("deleted, then boosted, or the other way", x, 3, 1, false);
        for (int i = 0; i < 3; i++) {
            both("as often as it is asked", x, 3, 0, true);
        }
        Checks.due("17: asking does nothing", x.ofServer(2, 1), 6);
    }

    private static void seesWrong() {
        Villagepost x = Checks.village(0, 1);
        Checks.refused("16: no such post", Checks.BOUNDS, () -> x.sees(0, 0));
        Checks.refused("17: no such post", Checks.BOUNDS, () -> x.seesAnew(0, 0));
        x.post(0, 0, 0, -1);
        Checks.refused("16: no such person", Checks.BOUNDS, () -> x.sees(2, 0));
        Checks.refused("16: person -1", Checks.BOUNDS, () -> x.sees(-1, 0));
        Checks.refused("16: post 1", Checks.BOUNDS, () -> x.sees(0, 1));
        Checks.refused("16: post -1", Checks.BOUNDS, () -> x.sees(0, -1));
        Checks.refused("17: no such person", Checks.BOUNDS, () -> x.seesAnew(2, 0));
        Checks.refused("17: person -1", Checks.BOUNDS, () -> x.seesAnew(-1, 0));
        Checks.refused("17: post 1", Checks.BOUNDS, () -> x.seesAnew(0, 1));
        Checks.refused("17: post -1", Checks.BOUNDS, () -> x.seesAnew(0, -1));
    }

    private static void home() {
        // 1 follows 0 and 2; 3 is at the same server as 1 and follows nobody.
        Villagepost x = Checks.village(0, 1, 2, 1);
        Checks.makeFollower(x, 1, 0);
        Checks.makeFollower(x, 1, 2);
        Checks.makeFollower(x, 2, 0);
        x.post(0, Villagepost.PUBLIC, 0, -1);
        x.post(0, Villagepost.FOLLOWERS, 0, -1);
        x.post(1, Villagepost.DIRECT, 0, -1);
        x.post(3, Villagepost.PUBLIC, 0, -1);
        x.post(2, Villagepost.DIRECT, 8, -1);
        Checks.home("18: own, at once", x, 1, 2);
        Checks.settle(x);
        Checks.home("18: own and followed, the greatest first", x, 1, 2, 1, 0);
        Checks.home("18: own and named", x, 3, 4, 3);
        Checks.home("18: own, though direct", x, 2, 4, 1, 0);
        Checks.due("18: seen, but not at home", x.sees(1, 3), true);
        x.boost(3, 0);
        Checks.settle(x);
        Checks.home("18: one's own boost brings nothing home", x, 3, 4, 3);
        x.leave(1, 0);
        Checks.home("18: follows no more", x, 1, 2);
        x.boost(2, 0);
        Checks.home("18: the boost is not known yet", x, 1, 2);
        Checks.settle(x);
        Checks.home("18: boosted by one who is followed", x, 1, 2, 0);
        x.block(1, 0, true);
        Checks.home("18: a block hides a boosted post", x, 1, 2);
        x.block(1, 0, false);
        Checks.home("18: and shows it again", x, 1, 2, 0);
        x.delete(0);
        Checks.settle(x);
        Checks.home("18: deleted", x, 1, 2);
        Checks.due("18: a great place", x.home(1, Integer.MAX_VALUE), Villagepost.NONE);
    }

    private static void homeWrong() {
        Villagepost x = Checks.village(0);
        Checks.refused("18: no such person", Checks.BOUNDS, () -> x.home(1, 0));
        Checks.refused("18: person -1", Checks.BOUNDS, () -> x.home(-1, 0));
        Checks.refused("18: place -1", Checks.BOUNDS, () -> x.home(0, -1));
        Checks.refused("18: the least place", Checks.BOUNDS, () -> x.home(0, Integer.MIN_VALUE));
        Checks.due("18: nothing at home", x.home(0, 0), Villagepost.NONE);
    }
}
