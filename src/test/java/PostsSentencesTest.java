/** The section "Posts" of the document, sentence by sentence, at its edges (promises 9 to 11). */
public final class PostsSentencesTest {
    private static final int PUBLIC = Villagepost.PUBLIC;
    private static final int FOLLOWERS = Villagepost.FOLLOWERS;
    private static final int DIRECT = Villagepost.DIRECT;
    private static final int NONE = Villagepost.NONE;

    private static final String SENT_ON = "When a PUBLIC reply is done at the server of the author of that post, it is sent on from there";
    private static final String TO_ALL = "it goes to all servers to which the post went from its author's, sent on from there or not, but for boosts";
    private static final String MARK_SENT_ON = "When a mark is done at another server from which the post was sent on, "
        + "it is sent on from there to the same servers.";

    public static void main(String[] args) {
        replyToWhatOneSees();
        replyOrNone();
        toFollowersUnlessDirect();
        toThoseNamed();
        toTheAuthorOfTheThread();
        sentOnWhenPublic();
        sentOnOnlyByTheThread();
        sentOnWhateverIsKnown();
        sentOnToFollowersThen();
        notToItsOwnAuthor();
        notWhereItGoesInAnyCase();
        toWhereAnotherServerSentIt();
        knownIfNotDeleted();
        deleteReturns();
        deleteMarks();
        neverKnownAgain();
        deleteGoesWhereThePostWent();
        deleteOfWhatWasSentOnFromHome();
        deleteButForBoosts();
        markSentOn();
        markOfWhatWasNotSentOn();
        boostGoes();
        boostMakesKnown();
        boostIsNotSentOn();
        Checks.finish("PostsSentencesTest");
    }

    private static void waiting(String what, Villagepost x, int want) {
        Checks.due("packets, " + what, Checks.waiting(x), want);
    }

    /** Posts, and looks at the packets that wait, from none before. */
    private static void goes(String what, Villagepost x, int author, int kind, int named, int reply, int want) {
        Checks.settle(x);
        x.post(author, kind, named, reply);
        waiting(what, x, want);
    }

    private static void replyToWhatOneSees() {
        Checks.holds("Posts; promise 9", "A post is PUBLIC, to FOLLOWERS, or DIRECT, names a set of people, and is perhaps a reply to a post that its author sees.");
        replyTo(PUBLIC);
        replyTo(FOLLOWERS);
        replyTo(DIRECT);
    }

    /** At server 1 a post of 0 comes, of that kind, in which 1 is named, and 2 is not. */
    private static void replyTo(int kind) {
        Villagepost x = Checks.village(0, 1, 1);
        x.post(0, kind, 2, NONE);
        Checks.refused("not there yet", Checks.STATE, () -> x.post(1, PUBLIC, 0, 0));
        Checks.due("one's own", x.post(0, kind, 0, 0), 1);
        Checks.due("one's own reply", x.post(0, kind, 0, 1), 2);
        Checks.settle(x);
        Checks.due("named", x.post(1, kind, 4, 0), 3);
        if (kind == PUBLIC) {
            Checks.due("not named, but it is public", x.post(2, DIRECT, 0, 0), 4);
        } else {
            Checks.refused("neither named nor following", Checks.STATE, () -> x.post(2, DIRECT, 0, 0));
            Checks.due("named in the reply", x.post(2, DIRECT, 0, 3), 4);
        }
        x.delete(0);
        Checks.refused("deleted", Checks.STATE, () -> x.post(0, kind, 0, 0));
        Checks.due("not deleted there yet", x.post(1, kind, 0, 0), 5);
        Checks.settle(x);
        Checks.refused("deleted there", Checks.STATE, () -> x.post(1, kind, 0, 0));
    }

    private static void replyOrNone() {
        Checks.holds("Promise 9", "the post to which it is a reply, or NONE");
        Villagepost x = Checks.village(0, 1, 2);
        Checks.due("none, before there is any post", x.post(0, PUBLIC, 2, NONE), 0);
        Checks.delivers(x, 1, Villagepost.POST);
        x.post(1, PUBLIC, 0, NONE);
        waiting("none goes to nobody", x, 0);
        x.post(1, PUBLIC, 0, 0);
        waiting("post 0 goes to its author", x, 1000);
    }

    private static void toFollowersUnlessDirect() {
        Checks.holds("Posts; promise 9", "It goes to the servers of the followers of its author, unless it is DIRECT");
        Villagepost x = Checks.village(0, 1, 2, 3, 0, 1);
        goes("nobody follows, public", x, 0, PUBLIC, 0, NONE, 0);
        goes("nobody follows, to followers", x, 0, FOLLOWERS, 0, NONE, 0);
        goes("nobody follows, direct", x, 0, DIRECT, 0, NONE, 0);
        Checks.makeFollower(x, 4, 0);
        goes("a follower at home, public", x, 0, PUBLIC, 0, NONE, 0);
        goes("a follower at home, to followers", x, 0, FOLLOWERS, 0, NONE, 0);
        Checks.makeFollower(x, 1, 0);
        Checks.makeFollower(x, 5, 0);
        x.follow(2, 0);
        Checks.makeFollower(x, 0, 3);
        goes("two followers at 1, public", x, 0, PUBLIC, 0, NONE, 100);
        goes("two followers at 1, to followers", x, 0, FOLLOWERS, 0, NONE, 100);
        goes("two followers at 1, direct", x, 0, DIRECT, 0, NONE, 0);
        Checks.makeFollower(x, 3, 0);
        goes("a follower at 3 besides", x, 0, FOLLOWERS, 0, NONE, 101);
        Checks.settle(x);
        x.leave(1, 0);
        x.leave(5, 0);
        x.post(0, PUBLIC, 0, NONE);
        waiting("as is known at home: 1 and 5 follow still", x, 2101);
        goes("who left gets nothing", x, 0, PUBLIC, 0, NONE, 1);
    }

    private static void toThoseNamed() {
        Checks.holds("Posts; promise 9", "of those who are named");
        Villagepost x = Checks.village(0, 1, 2, 3, 0, 1);
        for (int kind = PUBLIC; kind <= DIRECT; kind++) {
            goes("nobody", x, 0, kind, 0, NONE, 0);
            goes("oneself", x, 0, kind, 1, NONE, 0);
            goes("one at home", x, 0, kind, 16, NONE, 0);
            goes("one", x, 0, kind, 2, NONE, 100);
            goes("two at one server", x, 0, kind, 2 + 32, NONE, 100);
            goes("two at two servers", x, 0, kind, 4 + 8, NONE, 11);
            goes("all", x, 0, kind, 63, NONE, 111);
        }
        Checks.makeFollower(x, 1, 0);
        goes("a follower", x, 0, PUBLIC, 2, NONE, 100);
        goes("another one at the server of a follower", x, 0, FOLLOWERS, 32, NONE, 100);
        goes("a follower and another one", x, 0, FOLLOWERS, 8, NONE, 101);
    }

    private static void toTheAuthorOfTheThread() {
        Checks.holds("Posts; promise 9", "and of the author of the post to which it is a reply");
        for (int kind = PUBLIC; kind <= DIRECT; kind++) {
            Villagepost x = Checks.village(0, 1, 2, 0);
            x.post(0, PUBLIC, 2, NONE);
            goes("to the author", x, 1, kind, 0, 0, 1000);
            goes("to the author and who is named", x, 1, kind, 4, 0, 1010);
            goes("to the author, once", x, 1, kind, 1, 0, 1000);
            goes("a reply within a server", x, 3, kind, 0, 0, 0);
            goes("a reply to oneself", x, 0, kind, 0, 0, 0);
            Checks.makeFollower(x, 0, 1);
            goes("to the author who follows, once", x, 1, kind, 0, 0, 1000);
            goes("no reply", x, 1, kind, 0, NONE, kind == DIRECT ? 0 : 1000);
            Checks.settle(x);
            // The author of the reply is who matters, not the author of what that was a reply to.
            x.post(1, PUBLIC, 1 + 4, 0);
            goes("a reply to a reply", x, 2, kind, 0, 8, 100);
        }
    }

    /** 0 at server 0 with a follower 2 at server 2, and a post that 1 at server 1 and 3 at server 3 know. */
    private static Villagepost thread() {
        Villagepost x = Checks.village(0, 1, 2, 3);
        Checks.makeFollower(x, 2, 0);
        x.post(0, PUBLIC, 2 + 8, NONE);
        Checks.settle(x);
        return x;
    }

    private static void sentOnWhenPublic() {
        Checks.holds("Posts; promise 9", SENT_ON);
        Villagepost x = thread();
        x.post(1, PUBLIC, 0, 0);
        waiting("to the author's server", x, 1000);
        Checks.delivers(x, 0, Villagepost.POST);
        waiting("sent on to the follower's", x, 10);
        Checks.due("it was done there", x.sees(0, 1), true);
        Checks.delivers(x, 2, Villagepost.POST);
        Checks.due("the follower sees it", x.sees(2, 1), true);
        waiting("nothing is sent on from elsewhere", x, 0);
        x.post(1, FOLLOWERS, 0, 0);
        Checks.delivers(x, 0, Villagepost.POST);
        waiting("a reply to followers is not sent on", x, 0);
        x.post(1, DIRECT, 1, 0);
        Checks.delivers(x, 0, Villagepost.POST);
        waiting("a direct reply is not sent on", x, 0);
        x.post(1, PUBLIC, 1, NONE);
        Checks.delivers(x, 0, Villagepost.POST);
        waiting("what is no reply is not sent on", x, 0);
        // The thread itself need not be public.
        x.post(0, DIRECT, 2, NONE);
        x.post(0, FOLLOWERS, 2, NONE);
        Checks.settle(x);
        for (int post = 5; post <= 6; post++) {
            x.post(1, PUBLIC, 0, post);
            Checks.delivers(x, 0, Villagepost.POST);
            waiting("a reply to a post that is not public", x, 10);
            Checks.delivers(x, 2, Villagepost.POST);
        }
    }

    private static void sentOnOnlyByTheThread() {
        Checks.holds("Posts; promises 9 and 13", SENT_ON);
        // The reply goes to servers 0, 2 and 3: it is sent on from that of the author alone.
        Villagepost x = thread();
        Checks.makeFollower(x, 0, 3);
        Checks.makeFollower(x, 1, 2);
        Checks.makeFollower(x, 3, 1);
        x.post(1, PUBLIC, 4, 0);
        waiting("to 0, 2 and 3", x, 1011);
        Checks.delivers(x, 3, Villagepost.POST);
        Checks.delivers(x, 2, Villagepost.POST);
        waiting("not from the servers of others", x, 1000);
        Checks.delivers(x, 0, Villagepost.POST);
        waiting("from the author's", x, 10);
        Checks.due("repeated", x.repeat(0), Villagepost.POST);
        waiting("not twice", x, 10);
        // A reply to a reply is sent on from the server of the author of the reply.
        Villagepost y = thread();
        Checks.makeFollower(y, 3, 1);
        y.post(1, PUBLIC, 4, 0);
        Checks.settle(y);
        y.post(2, PUBLIC, 1, 1);
        waiting("to the author of the reply, and who is named", y, 1100);
        Checks.delivers(y, 0, Villagepost.POST);
        waiting("not from the server of the first post", y, 100);
        Checks.delivers(y, 1, Villagepost.POST);
        waiting("from that of the reply", y, 1);
    }

    private static void sentOnWhateverIsKnown() {
        Checks.holds("Posts; promise 9", "whatever is known of either post or marked there");
        Villagepost x = thread();
        x.delete(0);
        x.post(1, PUBLIC, 0, 0);
        Checks.delivers(x, 0, Villagepost.POST);
        Checks.due("the first post is deleted there", x.sees(0, 0), false);
        Checks.due("sent on all the same", x.ofServer(2, 0), 2);
        Villagepost y = thread();
        y.block(0, 1, true);
        y.post(1, PUBLIC, 0, 0);
        Checks.delivers(y, 0, Villagepost.POST);
        Checks.due("the reply is not seen by who blocks", y.sees(0, 1), false);
        waiting("sent on all the same, and the block", y, 110);
        Villagepost z = thread();
        z.post(1, PUBLIC, 0, 0);
        z.delete(1);
        waiting("a reply and its mark", z, 2000);
        Checks.delivers(z, 0, Villagepost.POST);
        waiting("sent on though deleted elsewhere", z, 1010);
    }

    private static void sentOnToFollowersThen() {
        Checks.holds("Posts; promise 9", "to the servers of the followers of that author");
        Villagepost x = thread();
        x.follow(3, 0);
        Checks.settle(x);
        x.post(1, PUBLIC, 0, 0);
        Checks.delivers(x, 0, Villagepost.POST);
        waiting("who asks is not a follower", x, 10);
        Checks.settle(x);
        x.post(1, PUBLIC, 0, 0);
        x.answer(0, 3, true);
        Checks.delivers(x, 0, Villagepost.POST);
        waiting("who was accepted meanwhile gets it", x, 12);
        Checks.settle(x);
        x.post(1, PUBLIC, 0, 0);
        x.leave(2, 0);
        Checks.delivers(x, 0, Villagepost.POST);
        waiting("who left is a follower there still", x, 1011);
        Checks.delivers(x, 0, Villagepost.LEAVE);
        Checks.settle(x);
        x.post(1, PUBLIC, 0, 0);
        Checks.delivers(x, 0, Villagepost.POST);
        waiting("who left is no follower any more", x, 1);
        Checks.settle(x);
        // 4 moves to the reply's author with 2, as server 0 knows: that author's followers do not matter there.
        x.person(0);
        Checks.makeFollower(x, 2, 4);
        x.alias(1, 4);
        Checks.settle(x);
        x.move(4, 1);
        waiting("a move with 2", x, 110);
        x.post(1, PUBLIC, 0, 0);
        Checks.delivers(x, 0, Villagepost.POST);
        waiting("sent on to 3 alone, besides the move", x, 111);

        Villagepost y = Checks.village(0, 1, 0, 2);
        y.post(0, PUBLIC, 2, NONE);
        Checks.settle(y);
        y.post(1, PUBLIC, 0, 0);
        Checks.delivers(y, 0, Villagepost.POST);
        waiting("nobody follows", y, 0);
        Checks.makeFollower(y, 2, 0);
        y.post(1, PUBLIC, 0, 0);
        Checks.delivers(y, 0, Villagepost.POST);
        waiting("a follower at that server itself", y, 0);
        Checks.due("sees it there", y.sees(2, 2), true);
    }

    private static void notToItsOwnAuthor() {
        Checks.holds("Posts; promise 9", "but not to that of its own author");
        Villagepost x = Checks.village(0, 1, 1, 2);
        Checks.makeFollower(x, 1, 0);
        Checks.makeFollower(x, 2, 0);
        x.post(0, PUBLIC, 0, NONE);
        Checks.settle(x);
        x.post(1, PUBLIC, 0, 0);
        Checks.delivers(x, 0, Villagepost.POST);
        waiting("the author and another follower at server 1", x, 0);
        Checks.makeFollower(x, 3, 0);
        x.post(1, PUBLIC, 0, 0);
        Checks.delivers(x, 0, Villagepost.POST);
        waiting("a follower at server 2 besides", x, 10);
    }

    private static void notWhereItGoesInAnyCase() {
        Checks.holds("Posts; promise 9", "nor to one to which it goes from there in any case");
        // 0 and 1 are at server 0; 0 has followers at 1, 2 and 3, 1 has one at 2.
        Villagepost x = Checks.village(0, 0, 1, 2, 3);
        Checks.makeFollower(x, 2, 0);
        Checks.makeFollower(x, 3, 0);
        Checks.makeFollower(x, 4, 0);
        Checks.makeFollower(x, 3, 1);
        x.post(0, PUBLIC, 0, NONE);
        goes("a follower of the reply's author gets it once", x, 1, PUBLIC, 0, 0, 111);
        goes("who is named gets it once", x, 1, PUBLIC, 16, 0, 111);
        goes("one's own thread goes to one's followers once", x, 0, PUBLIC, 0, 0, 111);
        goes("a reply to followers is not sent on", x, 1, FOLLOWERS, 0, 0, 10);
        goes("a direct reply is not sent on", x, 1, DIRECT, 16, 0, 1);
        goes("what is no reply is not sent on", x, 1, PUBLIC, 0, NONE, 10);
    }

    private static void toWhereAnotherServerSentIt() {
        Checks.holds("Posts; promises 9 and 13", "nor to one to which it goes from there in any case");
        // 2 follows both 0 and 1: the reply goes to server 2 from server 1, and from server 0 once more.
        Villagepost x = thread();
        Checks.makeFollower(x, 2, 1);
        x.post(1, PUBLIC, 0, 0);
        waiting("from the author's server", x, 1010);
        Checks.delivers(x, 0, Villagepost.POST);
        waiting("and from that of the thread", x, 20);
        int acts = x.ofServer(2, 1);
        Checks.delivers(x, 2, Villagepost.POST, Villagepost.POST);
        Checks.due("done once", x.ofServer(2, 1), acts + 1);
        Checks.due("known once", x.ofServer(2, 2), 2);
    }

    private static void knownIfNotDeleted() {
        Checks.holds("Posts; promise 14", "A post is known at a server at which it is done, if it is not deleted there.");
        Villagepost x = thread();
        Checks.makeFollower(x, 2, 1);
        x.post(1, PUBLIC, 0, 0);
        Checks.numbers("the author's server", x, 1, 0, 4, 2, 0, 1, 0);
        Checks.due("not known yet", x.ofServer(2, 2), 1);
        Checks.delivers(x, 2, Villagepost.POST);
        Checks.due("known where it is done", x.ofServer(2, 2), 2);
        Checks.due("not known at 3, where nobody sent it", x.ofServer(3, 2), 1);

        // To server 2 the post comes once more, behind its mark.
        Villagepost y = thread();
        Checks.makeFollower(y, 2, 1);
        y.post(1, PUBLIC, 0, 0);
        y.delete(1);
        Checks.delivers(y, 2, Villagepost.POST, Villagepost.DELETE);
        Checks.due("one post is known", y.ofServer(2, 2), 1);
        Checks.delivers(y, 0, Villagepost.POST, Villagepost.DELETE);
        Checks.delivers(y, 2, Villagepost.POST, Villagepost.DELETE);
        Checks.due("one post is known still", y.ofServer(2, 2), 1);
        Checks.due("one mark", y.ofServer(2, 3), 1);
        Checks.due("not seen", y.sees(2, 1), false);
        Checks.due("not seen anew", y.seesAnew(2, 1), false);
    }

    private static void deleteReturns() {
        Checks.holds("Promise 10", "Returns to how many servers it goes.");
        // 0 is at server 0; the others at servers 1, 2, 3, 0 and 1.
        int[] named = {0, 1, 16, 17, 2, 2 + 32, 4, 2 + 4, 2 + 4 + 8, 63};
        int[] servers = {0, 0, 0, 0, 1, 1, 1, 2, 3, 3};
        Villagepost x = Checks.village(0, 1, 2, 3, 0, 1);
        for (int i = 0; i < named.length; i++) {
            x.post(0, i % 3, named[i], NONE);
        }
        for (int i = 0; i < named.length; i++) {
            Checks.due("named " + named[i], x.delete(i), servers[i]);
        }
    }

    private static void deleteMarks() {
        Checks.holds("Posts; promise 10", "To DELETE a post, by its author, marks it: it is not known any more");
        Villagepost x = Checks.village(0, 1, 0);
        x.post(0, PUBLIC, 2, NONE);
        x.post(0, PUBLIC, 2, NONE);
        Checks.settle(x);
        Checks.due("before", x.ofServer(0, 2) * 10 + x.ofServer(0, 3), 20);
        x.delete(0);
        Checks.due("known and marked at home", x.ofServer(0, 2) * 10 + x.ofServer(0, 3), 11);
        Checks.due("known and marked there, not yet", x.ofServer(1, 2) * 10 + x.ofServer(1, 3), 20);
        Checks.due("its author does not see it", x.sees(0, 0), false);
        Checks.due("others at home neither", x.sees(2, 0), false);
        Checks.due("who is named sees it still", x.sees(1, 0), true);
        Checks.delivers(x, 1, Villagepost.DELETE);
        Checks.due("known and marked there", x.ofServer(1, 2) * 10 + x.ofServer(1, 3), 11);
        Checks.due("who is named sees it no more", x.sees(1, 0), false);
        Checks.due("another post is seen", x.sees(1, 1), true);
    }

    private static void neverKnownAgain() {
        Checks.holds("Posts; promises 10, 11 and 13", "nor ever again where the mark was done");
        // Server 2 gets a post by a boost of 1 alone; 2 boosts it back after 0 has deleted it.
        Villagepost x = Checks.village(0, 1, 2);
        Checks.makeFollower(x, 2, 1);
        x.post(0, PUBLIC, 2, NONE);
        Checks.settle(x);
        x.boost(1, 0);
        Checks.delivers(x, 0, Villagepost.BOOST);
        Checks.delivers(x, 2, Villagepost.BOOST);
        x.delete(0);
        Checks.due("repeated", x.repeat(0), Villagepost.BOOST);
        Checks.due("a boost that is repeated", x.ofServer(0, 2), 0);
        x.boost(2, 0);
        Checks.delivers(x, 0, Villagepost.BOOST);
        Checks.due("a boost that comes later", x.ofServer(0, 2), 0);
        Checks.due("not seen", x.sees(0, 0), false);
        Checks.due("not seen anew", x.seesAnew(0, 0), false);
        Checks.due("the mark is there still", x.ofServer(0, 3), 1);
        Checks.refused("nor can it be deleted again", Checks.STATE, () -> x.delete(0));
        Checks.due("known where no mark came", x.sees(2, 0), true);
        // A mark comes to server 2 before a boost does.
        Villagepost y = Checks.village(0, 1, 2);
        Checks.makeFollower(y, 2, 1);
        y.post(0, PUBLIC, 2 + 4, NONE);
        Checks.settle(y);
        y.delete(0);
        y.boost(1, 0);
        Checks.delivers(y, 2, Villagepost.DELETE, Villagepost.BOOST);
        Checks.due("not known at 2", y.ofServer(2, 2), 0);
        Checks.home("nothing", y, 2);
    }

    private static void deleteGoesWhereThePostWent() {
        Checks.holds("Posts; promise 10", TO_ALL);
        int[] named = {0, 1, 2, 4, 6, 14, 15};
        int[] want = {0, 0, 100, 10, 110, 111, 111};
        int[] servers = {0, 0, 1, 1, 2, 3, 3};
        for (int i = 0; i < named.length; i++) {
            Villagepost x = Checks.village(0, 1, 2, 3);
            x.post(0, i % 3, named[i], NONE);
            Checks.settle(x);
            Checks.due("to how many", x.delete(0), servers[i]);
            waiting("to whom it went, named " + named[i], x, want[i]);
        }
        // Who follows, and who has left, since then does not matter.
        Villagepost x = Checks.village(0, 1, 2);
        Checks.makeFollower(x, 1, 0);
        x.post(0, FOLLOWERS, 0, NONE);
        x.leave(1, 0);
        Checks.makeFollower(x, 2, 0);
        Checks.due("to how many", x.delete(0), 1);
        waiting("to the first follower's", x, 100);
    }

    /** 0 and 1 at server 0; 2 at server 1 follows 0; a post of 0, and a reply of 1 that is sent on from home. */
    private static Villagepost threadAtHome() {
        Villagepost x = Checks.village(0, 0, 1, 2);
        Checks.makeFollower(x, 2, 0);
        x.post(0, PUBLIC, 0, NONE);
        x.post(1, PUBLIC, 8, 0);
        Checks.settle(x);
        return x;
    }

    private static void deleteOfWhatWasSentOnFromHome() {
        Checks.holds("Posts; promise 10", TO_ALL);
        Villagepost x = threadAtHome();
        Checks.due("the reply was sent on", x.sees(2, 1), true);
        Checks.due("to the follower's and to who is named", x.delete(1), 2);
        waiting("both, once", x, 110);
        Checks.settle(x);
        Checks.numbers("marked there", x, 1, 0, 5, 1, 1, 1, 0);
        Villagepost y = threadAtHome();
        y.leave(2, 0);
        Checks.settle(y);
        Checks.makeFollower(y, 3, 0);
        Checks.due("as it was then", y.delete(1), 2);
        waiting("as it was then", y, 110);
        // Sent on from another server: that is not from its author's.
        Villagepost z = thread();
        z.post(1, PUBLIC, 0, 0);
        Checks.settle(z);
        Checks.due("from its author's to one", z.delete(1), 1);
        waiting("to the thread's", z, 1000);
    }

    private static void deleteButForBoosts() {
        Checks.holds("Posts; promises 10 and 11", TO_ALL);
        Villagepost x = Checks.village(0, 1, 2, 0, 3);
        Checks.makeFollower(x, 2, 1);
        Checks.makeFollower(x, 4, 3);
        x.post(0, PUBLIC, 2, NONE);
        Checks.settle(x);
        x.boost(1, 0);
        x.boost(3, 0);
        Checks.settle(x);
        Checks.due("a boost from elsewhere brought it to 2", x.sees(2, 0), true);
        Checks.due("a boost from home brought it to 3", x.sees(4, 0), true);
        Checks.due("not to these", x.delete(0), 1);
        waiting("to whom it went", x, 100);
        Checks.settle(x);
        Checks.due("nor on from 1", x.ofServer(2, 3) + x.ofServer(3, 3), 0);
    }

    private static void markSentOn() {
        Checks.holds("Posts; promise 10", MARK_SENT_ON);
        Villagepost x = thread();
        Checks.makeFollower(x, 2, 1);
        x.post(1, PUBLIC, 8, 0);
        Checks.settle(x);
        x.leave(2, 0);
        Checks.settle(x);
        Checks.makeFollower(x, 3, 0);
        Checks.due("from its author's", x.delete(1), 3);
        waiting("from its author's", x, 1011);
        Checks.delivers(x, 0, Villagepost.DELETE);
        waiting("sent on to the same, though 2 left and 3 came", x, 21);
        Checks.due("repeated", x.repeat(0), Villagepost.DELETE);
        waiting("not twice", x, 21);
        Checks.settle(x);
        Checks.due("marked once there", x.ofServer(2, 3), 1);
        waiting("sent on from there alone", x, 0);
        // To two servers, one after the other.
        Villagepost y = thread();
        Checks.makeFollower(y, 3, 0);
        y.post(1, PUBLIC, 0, 0);
        Checks.settle(y);
        y.delete(1);
        Checks.delivers(y, 0, Villagepost.DELETE);
        waiting("sent on to both", y, 11);
        Checks.due("known there until it is done", y.sees(2, 1), true);
        Checks.delivers(y, 2, Villagepost.DELETE);
        Checks.delivers(y, 3, Villagepost.DELETE);
        Checks.due("not known there", y.sees(2, 1), false);
        Checks.due("not known there", y.sees(3, 1), false);
    }

    private static void markOfWhatWasNotSentOn() {
        Checks.holds("Posts; promise 10", MARK_SENT_ON);
        for (int kind = FOLLOWERS; kind <= DIRECT; kind++) {
            Villagepost x = thread();
            x.post(1, kind, 1, 0);
            Checks.settle(x);
            Checks.due("to the thread's", x.delete(1), 1);
            Checks.delivers(x, 0, Villagepost.DELETE);
            waiting("a reply of kind " + kind, x, 0);
        }
        Villagepost x = thread();
        x.post(1, PUBLIC, 1, NONE);
        Checks.settle(x);
        x.delete(1);
        Checks.delivers(x, 0, Villagepost.DELETE);
        waiting("no reply", x, 0);
        // Nobody followed when it came: there are no servers to send its mark on to.
        Villagepost y = Checks.village(0, 1, 2);
        y.post(0, PUBLIC, 2, NONE);
        Checks.settle(y);
        y.post(1, PUBLIC, 0, 0);
        Checks.settle(y);
        Checks.makeFollower(y, 2, 0);
        y.delete(1);
        Checks.delivers(y, 0, Villagepost.DELETE);
        waiting("sent on to nobody", y, 0);
    }

    private static void boostGoes() {
        Checks.holds("Posts; promise 11", "To BOOST a PUBLIC post that one sees goes to the servers of one's followers, and of its author");
        Villagepost x = Checks.village(0, 1, 2, 3, 1, 0);
        x.post(0, PUBLIC, 2, NONE);
        x.post(0, PUBLIC, 2, NONE);
        x.post(0, PUBLIC, 2, NONE);
        x.post(1, PUBLIC, 0, NONE);
        Checks.settle(x);
        x.boost(1, 0);
        waiting("nobody follows: to the author's", x, 1000);
        x.boost(4, 3);
        waiting("within a server, nobody follows", x, 1000);
        x.boost(5, 0);
        waiting("within a server, nobody follows", x, 1000);
        Checks.settle(x);
        Checks.makeFollower(x, 2, 1);
        Checks.makeFollower(x, 4, 1);
        x.follow(3, 1);
        Checks.settle(x);
        x.boost(1, 1);
        waiting("to a follower's too, not to who asks or is at home", x, 1010);
        Checks.settle(x);
        Checks.makeFollower(x, 0, 1);
        x.boost(1, 2);
        waiting("to the author who follows, once", x, 1010);
        x.boost(1, 3);
        waiting("one's own, to one's followers", x, 2020);
        x.post(1, PUBLIC, 0, NONE);
        waiting("another post of 1", x, 3030);
        x.boost(4, 4);
        waiting("nobody follows 4: not to its author's followers", x, 3030);
    }

    private static void boostMakesKnown() {
        Checks.holds("Posts; promise 11", "the post is known where that is done, if it is not deleted there");
        Villagepost x = Checks.village(0, 1, 2, 2);
        Checks.makeFollower(x, 2, 1);
        x.post(0, PUBLIC, 2, NONE);
        Checks.settle(x);
        x.boost(1, 0);
        Checks.due("not yet", x.ofServer(2, 2), 0);
        Checks.delivers(x, 2, Villagepost.BOOST);
        Checks.due("known there", x.ofServer(2, 2), 1);
        Checks.due("seen by who follows", x.sees(2, 0), true);
        Checks.due("seen by others there", x.seesAnew(3, 0), true);
        x.boost(2, 0);
        x.boost(3, 0);
        Checks.due("known once", x.ofServer(2, 2), 1);
        Checks.due("it can be replied to there", x.post(3, PUBLIC, 0, 0), 1);

        Villagepost y = Checks.village(0, 1, 2);
        Checks.makeFollower(y, 2, 1);
        y.post(0, PUBLIC, 2 + 4, NONE);
        Checks.settle(y);
        y.delete(0);
        Checks.delivers(y, 2, Villagepost.DELETE);
        y.boost(1, 0);
        Checks.delivers(y, 2, Villagepost.BOOST);
        Checks.due("deleted there", y.ofServer(2, 2), 0);
        Checks.due("not seen", y.sees(2, 0), false);
    }

    private static void boostIsNotSentOn() {
        Checks.holds("Posts; promises 9 and 11", SENT_ON);
        // 3 boosts a reply to 0: what comes to server 0 is a boost, not the reply.
        Villagepost x = thread();
        x.post(1, PUBLIC, 8, 0);
        Checks.settle(x);
        x.boost(3, 1);
        waiting("to the reply's author", x, 100);
        Checks.makeFollower(x, 0, 3);
        x.boost(3, 0);
        waiting("to the author who follows", x, 1000);
        x.post(1, PUBLIC, 8, 0);
        Checks.settle(x);
        x.boost(3, 2);
        waiting("to the reply's author, and the follower", x, 1100);
        Checks.delivers(x, 0, Villagepost.BOOST);
        waiting("a boost is not sent on", x, 100);
    }
}
