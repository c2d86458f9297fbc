/** Promises 9 to 11: post, delete and boost. */
public final class PostsTest {
    public static void main(String[] args) {
        postKinds();
        postNamed();
        postWrong();
        postFull();
        replies();
        replySentOn();
        replySentOnAfterItsMark();
        replySentOnFromHome();
        replySentOnThoughMarked();
        replyNotSentOn();
        delete();
        deleteSentOn();
        deleteAgainstBoost();
        deleteWrong();
        boost();
        boostIsNoPost();
        boostWrong();
        Checks.finish("PostsTest");
    }

    private static void postKinds() {
        Villagepost x = Checks.village(0, 1, 2, 2, 0);
        Checks.makeFollower(x, 1, 0);
        Checks.makeFollower(x, 4, 0);
        x.follow(3, 0);
        Checks.settle(x);
        Checks.due("9: number", x.post(0, Villagepost.PUBLIC, 0, -1), 0);
        Checks.due("9: to the followers' servers, not to who asks", Checks.waiting(x), 100);
        Checks.due("9: number", x.post(0, Villagepost.FOLLOWERS, 0, -1), 1);
        Checks.due("9: to the followers' servers", Checks.waiting(x), 200);
        Checks.due("9: number", x.post(0, Villagepost.DIRECT, 0, -1), 2);
        Checks.due("9: to nobody", Checks.waiting(x), 200);
        Checks.due("9: known at home at once", x.ofServer(0, 2), 3);
        Checks.due("9: packet", x.deliver(1), Villagepost.POST);
        Checks.due("9: known where it is done", x.ofServer(1, 2), 1);
    }

    private static void postNamed() {
        Villagepost x = Checks.village(0, 1, 2, 2, 3);
        Checks.makeFollower(x, 1, 0);
        x.post(0, Villagepost.DIRECT, 4 + 8, -1);
        Checks.due("9: to those named, once a server", Checks.waiting(x), 10);
        x.post(0, Villagepost.FOLLOWERS, 2 + 16, -1);
        Checks.due("9: to followers and those named", Checks.waiting(x), 111);
        x.post(0, Villagepost.PUBLIC, 1, -1);
        Checks.due("9: one can name oneself", Checks.waiting(x), 211);
        x.post(0, Villagepost.PUBLIC, 31, -1);
        Checks.due("9: all that are there can be named", Checks.waiting(x), 322);
    }

    private static void postWrong() {
        Villagepost x = Checks.village(0, 1);
        Checks.refused("9: no such person", Checks.BOUNDS, () -> x.post(2, 0, 0, -1));
        Checks.refused("9: person -1", Checks.BOUNDS, () -> x.post(-1, 0, 0, -1));
        Checks.refused("9: no such post", Checks.BOUNDS, () -> x.post(0, 0, 0, 0));
        Checks.refused("9: post -2", Checks.BOUNDS, () -> x.post(0, 0, 0, -2));
        Checks.refused("9: no such post, before kind", Checks.BOUNDS, () -> x.post(0, 3, 4, 0));
        Checks.refused("9: kind 3", Checks.ARGUMENT, () -> x.post(0, 3, 0, -1));
        Checks.refused("9: kind -1", Checks.ARGUMENT, () -> x.post(0, -1, 0, -1));
        Checks.refused("9: named is not there", Checks.ARGUMENT, () -> x.post(0, 0, 4, -1));
        Checks.refused("9: the greatest named", Checks.ARGUMENT, () -> x.post(0, 0, Integer.MAX_VALUE, -1));
        Checks.refused("9: named below 0", Checks.ARGUMENT, () -> x.post(0, 0, -1, -1));
        Checks.refused("9: the least named", Checks.ARGUMENT, () -> x.post(0, 0, Integer.MIN_VALUE, -1));
        Checks.due("9: refused calls make no post", x.post(0, 0, 0, -1), 0);
        Checks.refused("9: not seen", Checks.STATE, () -> x.post(1, 0, 0, 0));
        Checks.refused("9: kind, before not seen", Checks.ARGUMENT, () -> x.post(1, 3, 0, 0));
        Checks.refused("9: named, before not seen", Checks.ARGUMENT, () -> x.post(1, 0, 4, 0));
        Checks.due("9: refused calls make no post", x.post(0, 0, 0, -1), 1);
        Checks.refused("9: post 2", Checks.BOUNDS, () -> x.post(0, 0, 0, 2));
    }

    private static void postFull() {
        Villagepost x = Checks.village(0, 1);
        for (int i = 0; i < 50; i++) {
            Checks.due("9: number", x.post(i % 2, i % 3, i % 4, -1), i);
        }
        Checks.refused("9: there are 50", Checks.STATE, () -> x.post(0, 0, 0, -1));
        Checks.refused("9: no such post, before 50", Checks.BOUNDS, () -> x.post(0, 0, 0, 50));
        Checks.refused("9: kind, before 50", Checks.ARGUMENT, () -> x.post(0, 3, 0, -1));
        Checks.due("9: the last one is seen", x.sees(1, 49), true);
        x.delete(48);
        Checks.refused("9: a deleted post makes no room", Checks.STATE, () -> x.post(0, 0, 0, -1));
        Checks.settle(x);
        Checks.due("9: all are counted", x.ofServer(0, 2) + x.ofServer(1, 2) > 50, true);
        Checks.due("9: the first one is known still", x.sees(0, 0), true);
    }

    private static void replies() {
        Villagepost x = Checks.village(0, 1, 2);
        x.post(0, Villagepost.DIRECT, 2 + 4, -1);
        Checks.settle(x);
        Checks.due("9: a direct reply", x.post(1, Villagepost.DIRECT, 0, 0), 1);
        Checks.due("9: to the server of the author alone", Checks.waiting(x), 1000);
        Checks.settle(x);
        Checks.due("9: known there", x.ofServer(0, 2), 2);
        Checks.due("9: but not seen, when not named", x.sees(0, 1), false);
        Checks.refused("9: nor replied to", Checks.STATE, () -> x.post(0, 0, 0, 1));
        x.delete(0);
        Checks.refused("9: a deleted post is not replied to", Checks.STATE, () -> x.post(0, 0, 0, 0));
        Checks.due("9: where it is known still, it is", x.post(2, 0, 0, 0), 2);
    }

    private static void replySentOn() {
        // 0 at server 0 has followers at 0, 1, 2 and 3; 1 replies, whom 2 at server 2 follows.
        Villagepost x = Checks.village(0, 1, 2, 3, 0);
        Checks.makeFollower(x, 1, 0);
        Checks.makeFollower(x, 2, 0);
        Checks.makeFollower(x, 3, 0);
        Checks.makeFollower(x, 4, 0);
        Checks.makeFollower(x, 2, 1);
        x.post(0, Villagepost.PUBLIC, 0, -1);
        Checks.settle(x);
        x.post(1, Villagepost.PUBLIC, 0, 0);
        Checks.due("9: to the author and the followers", Checks.waiting(x), 1010);
        Checks.due("9: packet", x.deliver(0), Villagepost.POST);
        Checks.due("9: sent on to all followers' servers but the reply's own", Checks.waiting(x), 21);
        Checks.due("9: repeated", x.repeat(0), Villagepost.POST);
        Checks.due("9: not sent on again", Checks.waiting(x), 21);
        Checks.due("9: packet", x.deliver(3), Villagepost.POST);
        Checks.due("9: seen there", x.sees(3, 1), true);
        Checks.due("9: not at home there", x.home(3, 0), 0);
        Checks.due("9: not sent on from elsewhere", Checks.waiting(x), 20);
        x.deliver(2);
        long done = x.ofServer(2, 1);
        Checks.due("9: from the server of the thread too", x.deliver(2), Villagepost.POST);
        Checks.due("9: not done there again", x.ofServer(2, 1), done);
        Checks.due("10: from its author's to two", x.delete(1), 2);
        Checks.due("10: to these", Checks.waiting(x), 1010);
        x.deliver(0);
        Checks.due("10: sent on to all the same servers", Checks.waiting(x), 21);
        Checks.settle(x);
        Checks.due("10: marked once", x.ofServer(2, 3), 1);
        Checks.due("10: not seen there", x.sees(3, 1), false);
    }

    private static void replySentOnAfterItsMark() {
        // The server of the thread is slow: the reply that it sends on comes to server 2 behind the mark.
        Villagepost x = Checks.village(0, 1, 2);
        Checks.makeFollower(x, 2, 0);
        Checks.makeFollower(x, 2, 1);
        x.post(0, Villagepost.PUBLIC, 2, -1);
        Checks.settle(x);
        x.post(1, Villagepost.PUBLIC, 0, 0);
        x.deliver(2);
        x.delete(1);
        x.deliver(2);
        Checks.due("10: marked there", x.ofServer(2, 3), 1);
        x.deliver(0);
        Checks.due("9: sent on", Checks.waiting(x), 1010);
        Checks.due("9: packet", x.deliver(2), Villagepost.POST);
        Checks.due("10: never known again", x.sees(2, 1), false);
        x.deliver(0);
        Checks.due("10: the mark sent on", x.deliver(2), Villagepost.DELETE);
        Checks.due("10: marked once", x.ofServer(2, 3), 1);
    }

    private static void replySentOnFromHome() {
        // 3 follows 1, 2 and 4 follow 0, and 3 and 4 are at one server, to which it goes in any case.
        Villagepost x = Checks.village(0, 0, 1, 2, 2);
        Checks.makeFollower(x, 2, 0);
        Checks.makeFollower(x, 3, 1);
        Checks.makeFollower(x, 4, 0);
        x.post(0, Villagepost.PUBLIC, 0, -1);
        Checks.settle(x);
        x.post(1, Villagepost.PUBLIC, 0, 0);
        Checks.due("9: sent on at once, once a server", Checks.waiting(x), 110);
        Checks.settle(x);
        Checks.due("9: seen there", x.sees(2, 1), true);
        Checks.due("10: goes to both", x.delete(1), 2);
        Checks.due("10: both", Checks.waiting(x), 110);
        Checks.settle(x);
        Checks.due("10: not seen there", x.sees(2, 1), false);
        Checks.due("10: marked once", x.ofServer(1, 3), 1);

        // One's own thread: the followers get it in any case.
        x.post(0, Villagepost.PUBLIC, 0, 0);
        Checks.due("9: once a server", Checks.waiting(x), 110);
    }

    private static void replySentOnThoughMarked() {
        Villagepost x = Checks.village(0, 1, 2, 2);
        Checks.makeFollower(x, 2, 0);
        x.post(0, Villagepost.PUBLIC, 2, -1);
        Checks.settle(x);
        x.delete(0);
        x.block(0, 1, true);
        x.post(1, Villagepost.PUBLIC, 0, 0);
        x.deliver(2);
        Checks.due("9: packet", x.deliver(0), Villagepost.POST);
        Checks.due("9: sent on, though the thread is deleted and blocked", x.ofServer(2, 0), 1);
        x.deliver(2);
        Checks.due("9: seen there", x.sees(3, 1), true);
        Checks.due("9: not seen by who blocks", x.sees(0, 1), false);
    }

    private static void replyNotSentOn() {
        Villagepost x = Checks.village(0, 1, 2);
        Checks.makeFollower(x, 2, 0);
        x.post(0, Villagepost.PUBLIC, 2, -1);
        Checks.settle(x);
        x.post(1, Villagepost.FOLLOWERS, 0, 0);
        x.post(1, Villagepost.DIRECT, 1, 0);
        x.deliver(0);
        x.deliver(0);
        Checks.due("9: only public replies are sent on", Checks.waiting(x), 0);
        x.post(1, Villagepost.PUBLIC, 1, -1);
        x.deliver(0);
        Checks.due("9: only replies are sent on", Checks.waiting(x), 0);
        x.delete(1);
        Checks.due("10: to the server of the thread", Checks.waiting(x), 1000);
        x.deliver(0);
        Checks.due("10: what was not sent on has no mark to send on", Checks.waiting(x), 0);
    }

    private static void delete() {
        Villagepost x = Checks.village(0, 1, 2, 3);
        Checks.makeFollower(x, 1, 0);
        x.post(0, Villagepost.PUBLIC, 4, -1);
        x.post(0, Villagepost.DIRECT, 0, -1);
        x.leave(1, 0);
        Checks.settle(x);
        Checks.makeFollower(x, 3, 0);
        Checks.due("10: goes where the post went", x.delete(0), 2);
        Checks.due("10: not to new followers", Checks.waiting(x), 110);
        Checks.due("10: not known at home", x.ofServer(0, 2), 1);
        Checks.due("10: marked at home", x.ofServer(0, 3), 1);
        Checks.due("10: not seen by its author", x.sees(0, 0), false);
        Checks.due("10: seen elsewhere still", x.sees(1, 0), true);
        Checks.due("10: packet", x.deliver(1), Villagepost.DELETE);
        Checks.due("10: not seen there", x.sees(1, 0), false);
        Checks.due("10: not known there", x.ofServer(1, 2), 0);
        Checks.due("10: marked there", x.ofServer(1, 3), 1);
        Checks.due("10: goes nowhere", x.delete(1), 0);
        Checks.due("10: no packets", Checks.waiting(x), 10);
    }

    private static void deleteSentOn() {
        // 1 replies to 0; the server of 0 sends on to 2 at server 2, who then leaves.
        Villagepost x = Checks.village(0, 1, 2, 3);
        Checks.makeFollower(x, 2, 0);
        x.post(0, Villagepost.PUBLIC, 2, -1);
        Checks.settle(x);
        x.post(1, Villagepost.PUBLIC, 0, 0);
        Checks.settle(x);
        x.leave(2, 0);
        Checks.settle(x);
        Checks.makeFollower(x, 3, 0);
        Checks.due("10: from its author's to one", x.delete(1), 1);
        Checks.due("10: to the server of the thread", Checks.waiting(x), 1000);
        Checks.due("10: packet", x.deliver(0), Villagepost.DELETE);
        Checks.due("10: sent on to the same servers", Checks.waiting(x), 10);
        x.repeat(0);
        Checks.due("10: not sent on again", Checks.waiting(x), 10);
        Checks.due("10: seen there still", x.sees(2, 1), true);
        Checks.due("10: packet", x.deliver(2), Villagepost.DELETE);
        Checks.due("10: not seen there", x.sees(2, 1), false);
        Checks.due("10: not sent on from elsewhere", Checks.waiting(x), 0);
    }

    private static void deleteAgainstBoost() {
        // 1 boosts a post of 0 to server 2; the mark does not go there, but a mark keeps a post away.
        Villagepost x = Checks.village(0, 1, 2);
        Checks.makeFollower(x, 1, 0);
        Checks.makeFollower(x, 2, 1);
        x.post(0, Villagepost.PUBLIC, 0, -1);
        Checks.settle(x);
        x.boost(1, 0);
        Checks.settle(x);
        Checks.due("10: not to servers of boosts", x.delete(0), 1);
        Checks.settle(x);
        Checks.due("10: known there still", x.sees(2, 0), true);
        x.boost(2, 0);
        Checks.settle(x);
        Checks.due("10: a boost does not bring it back", x.ofServer(0, 2), 0);
        Checks.due("10: nor to its author", x.sees(0, 0), false);

        Villagepost y = Checks.village(0, 1, 2);
        Checks.makeFollower(y, 1, 0);
        Checks.makeFollower(y, 2, 1);
        y.post(0, Villagepost.PUBLIC, 4, -1);
        Checks.settle(y);
        y.delete(0);
        y.boost(1, 0);
        Checks.due("10: the mark comes first", y.deliver(2), Villagepost.DELETE);
        Checks.due("10: then the boost", y.deliver(2), Villagepost.BOOST);
        Checks.due("10: never known again", y.sees(2, 0), false);
        Checks.due("10: never counted again", y.ofServer(2, 2), 0);
    }

    private static void deleteWrong() {
        Villagepost x = Checks.village(0, 1);
        Checks.refused("10: no such post", Checks.BOUNDS, () -> x.delete(0));
        Checks.refused("10: post -1", Checks.BOUNDS, () -> x.delete(-1));
        x.post(0, 0, 2, -1);
        Checks.refused("10: post 1", Checks.BOUNDS, () -> x.delete(1));
        x.delete(0);
        Checks.refused("10: deleted already", Checks.STATE, () -> x.delete(0));
        Checks.due("10: refused calls do nothing", x.ofServer(0, 1), 2);
    }

    private static void boost() {
        Villagepost x = Checks.village(0, 1, 2, 3);
        Checks.makeFollower(x, 1, 0);
        Checks.makeFollower(x, 2, 1);
        x.follow(3, 1);
        Checks.settle(x);
        x.post(0, Villagepost.PUBLIC, 0, -1);
        Checks.settle(x);
        x.boost(1, 0);
        Checks.due("11: to one's followers and the author", Checks.waiting(x), 1010);
        Checks.due("11: not seen there yet", x.sees(2, 0), false);
        Checks.due("11: packet", x.deliver(2), Villagepost.BOOST);
        Checks.due("11: seen there", x.sees(2, 0), true);
        Checks.due("11: known there", x.ofServer(2, 2), 1);
        Checks.home("11: of who follows the booster", x, 2, 0);
        x.boost(2, 0);
        Checks.due("11: another one can boost it on", Checks.waiting(x), 2000);
        x.boost(0, 0);
        Checks.due("11: its author too", Checks.waiting(x), 2100);
    }

    private static void boostIsNoPost() {
        // The boost of a reply comes to the thread's server before the reply: the reply is sent on when it comes.
        Villagepost x = Checks.village(0, 1, 2, 1);
        Checks.makeFollower(x, 2, 0);
        x.post(0, Villagepost.PUBLIC, 2, -1);
        Checks.settle(x);
        x.post(1, Villagepost.PUBLIC, 0, 0);
        x.boost(3, 1);
        Checks.due("11: packet of the post", x.deliver(0), Villagepost.POST);
        Checks.due("11: sent on", Checks.waiting(x), 10);
        Checks.due("11: within the author's server no packet", x.deliver(0), Villagepost.NONE);

        Villagepost y = Checks.village(0, 1, 2, 1);
        Checks.makeFollower(y, 2, 0);
        Checks.makeFollower(y, 0, 3);
        y.post(0, Villagepost.PUBLIC, 2, -1);
        Checks.settle(y);
        y.post(1, Villagepost.PUBLIC, 0, -1);
        y.boost(3, 1);
        Checks.due("11: to the follower", Checks.waiting(y), 1000);
        Checks.due("11: packet", y.deliver(0), Villagepost.BOOST);
        Checks.due("11: a boost is not sent on", Checks.waiting(y), 0);
        Checks.due("11: known there", y.sees(0, 1), true);
        Checks.due("11: a boosted post is replied to", y.post(0, 0, 0, 1), 2);
    }

    private static void boostWrong() {
        Villagepost x = Checks.village(0, 1);
        Checks.refused("11: no such post", Checks.BOUNDS, () -> x.boost(0, 0));
        Checks.refused("11: post -1", Checks.BOUNDS, () -> x.boost(0, -1));
        x.post(0, Villagepost.PUBLIC, 0, -1);
        x.post(0, Villagepost.FOLLOWERS, 2, -1);
        x.post(0, Villagepost.DIRECT, 2, -1);
        Checks.refused("11: no such person", Checks.BOUNDS, () -> x.boost(2, 0));
        Checks.refused("11: person -1", Checks.BOUNDS, () -> x.boost(-1, 0));
        Checks.refused("11: post 3", Checks.BOUNDS, () -> x.boost(0, 3));
        Checks.settle(x);
        Checks.refused("11: not seen", Checks.STATE, () -> x.boost(1, 0));
        Checks.refused("11: to followers", Checks.STATE, () -> x.boost(1, 1));
        Checks.refused("11: direct", Checks.STATE, () -> x.boost(1, 2));
        Checks.refused("11: to followers, by its author", Checks.STATE, () -> x.boost(0, 1));
        x.boost(0, 0);
        Checks.refused("11: boosted already", Checks.STATE, () -> x.boost(0, 0));
        x.post(0, Villagepost.PUBLIC, 0, -1);
        x.delete(3);
        Checks.refused("11: deleted", Checks.STATE, () -> x.boost(0, 3));
        Checks.due("11: refused calls do nothing", x.ofServer(0, 1), 6);
    }
}
