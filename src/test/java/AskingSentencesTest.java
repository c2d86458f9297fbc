/** What is asked: the sentences on who sees a post and what is at home, and promises 14 to 18, at their edges. */
public final class AskingSentencesTest {
    private static final int PUBLIC = Villagepost.PUBLIC;
    private static final int FOLLOWERS = Villagepost.FOLLOWERS;
    private static final int DIRECT = Villagepost.DIRECT;
    private static final int NONE = Villagepost.NONE;

    private static final String SEES = "Somebody sees a post, if it is known at their server, no block between them and its author is known there, "
        + "and it is their own, they are named, it is PUBLIC, or it is to FOLLOWERS, and they follow its author there.";
    private static final String AT_HOME = "At home one has posts that one sees, and of which one is the author, or is named, or follows the author, "
        + "or follows somebody who has boosted it, there; the one with the greatest number first.";

    public static void main(String[] args) {
        howManyWait();
        howManyActs();
        howManyPosts();
        howManyMarks();
        howManyFollowsAndAsks();
        between();
        seesIfKnown();
        seesUnlessBlocked();
        seesByKind();
        seesAsFollower();
        foundAnew();
        foundAnewInOrder();
        homeOfWhatOneSees();
        homeOfEachKind();
        homeByBoosts();
        homeByBoostsOfEach();
        homeInOrder();
        firstPlace();
        homePlaces();
        Checks.finish("AskingSentencesTest");
    }

    private static void both(String what, Villagepost x, int person, int post, boolean want) {
        Checks.due(what + ", sees", x.sees(person, post), want);
        Checks.due(what + ", sees anew", x.seesAnew(person, post), want);
    }

    /** How many of one number there are at the servers 0 to 3, one digit each. */
    private static int everywhere(Villagepost x, int what) {
        int found = 0;
        for (int server = 0; server < 4; server++) {
            found = found * 10 + x.ofServer(server, what);
        }
        return found;
    }

    private static void howManyWait() {
        Checks.holds("Promise 14", "0 how many packets wait");
        Villagepost x = Checks.village(0, 3);
        Checks.due("none", everywhere(x, 0), 0);
        x.follow(0, 1);
        Checks.due("one", everywhere(x, 0), 1);
        x.follow(1, 0);
        x.leave(0, 1);
        Checks.due("two and one", everywhere(x, 0), 1002);
        x.deliver(3);
        Checks.due("one and one", everywhere(x, 0), 1001);
        x.repeat(3);
        Checks.due("a repeat is no packet", everywhere(x, 0), 1001);
        x.deliver(3);
        x.deliver(3);
        Checks.due("none at 3", everywhere(x, 0), 1000);
    }

    private static void howManyActs() {
        Checks.holds("Promise 14", "1 how many acts were done there");
        Villagepost x = Checks.village(0, 3);
        Checks.due("people are no acts", everywhere(x, 1), 0);
        x.follow(0, 1);
        Checks.due("at home at once", everywhere(x, 1), 1000);
        x.deliver(3);
        x.repeat(3);
        x.deliver(3);
        Checks.due("there as delivered, once", everywhere(x, 1), 1001);
        Checks.refused("asks already", Checks.STATE, () -> x.follow(0, 1));
        x.sees(0, x.post(0, DIRECT, 0, NONE));
        Checks.due("a post, but nothing refused or asked", everywhere(x, 1), 2001);
        x.block(1, 0, true);
        x.leave(0, 1);
        x.follow(0, 1);
        x.deliver(3);
        x.deliver(3);
        Checks.due("what a block holds off counts", everywhere(x, 1), 4004);
    }

    private static void howManyPosts() {
        Checks.holds("Promise 14", "2 how many posts are known");
        Villagepost x = Checks.village(0, 3, 3);
        Checks.due("none", everywhere(x, 2), 0);
        x.post(0, PUBLIC, 0, NONE);
        x.post(0, DIRECT, 2, NONE);
        x.post(1, FOLLOWERS, 0, NONE);
        Checks.due("at home", everywhere(x, 2), 2001);
        Checks.settle(x);
        Checks.due("though nobody else sees them", everywhere(x, 2), 2002);
        Checks.due("one does not see what is known", x.sees(2, 1), false);
        x.boost(0, 0);
        Checks.due("boosted, and known once", everywhere(x, 2), 2002);
        x.delete(1);
        Checks.due("deleted at home", everywhere(x, 2), 1002);
        Checks.settle(x);
        Checks.due("deleted there", everywhere(x, 2), 1001);
    }

    private static void howManyMarks() {
        Checks.holds("Promise 14", "3 how many marks of deleted posts");
        Villagepost x = Checks.village(0, 3);
        x.post(0, PUBLIC, 2, NONE);
        x.post(0, PUBLIC, 0, NONE);
        Checks.due("none", everywhere(x, 3), 0);
        x.delete(1);
        Checks.due("one", everywhere(x, 3), 1000);
        x.delete(0);
        Checks.due("two", everywhere(x, 3), 2000);
        Checks.settle(x);
        Checks.due("one there", everywhere(x, 3), 2001);
        x.repeat(3);
        Checks.due("one there", everywhere(x, 3), 2001);
    }

    private static void howManyFollowsAndAsks() {
        Checks.holds("Promise 14", "4 how many follows; 5 how many asks");
        Villagepost x = Checks.village(0, 3, 3);
        x.follow(0, 1);
        Checks.due("an ask", everywhere(x, 5), 1000);
        Checks.due("an ask is no follow", everywhere(x, 4), 0);
        x.follow(1, 0);
        x.follow(1, 2);
        Checks.settle(x);
        Checks.due("asks", everywhere(x, 5), 2003);
        x.answer(1, 0, true);
        Checks.due("a follow is no ask", everywhere(x, 5), 2002);
        Checks.due("a follow", everywhere(x, 4), 1);
        x.answer(2, 1, true);
        Checks.settle(x);
        Checks.due("follows", everywhere(x, 4), 1002);
        Checks.due("asks left", everywhere(x, 5), 1001);
        x.block(1, 0, true);
        Checks.due("a block takes a follow away", everywhere(x, 4), 1001);
        Checks.due("a block takes an ask away", everywhere(x, 5), 1000);
    }

    private static void between() {
        Checks.holds("Promise 15", "Returns 0 nothing; 1 the one asks; 2 the one follows; 4 besides, if the one blocks the other, together.");
        Villagepost x = Checks.village(0, 0, 0);
        Checks.due("nothing", x.between(0, 0, 1), 0);
        Checks.due("nothing with oneself", x.between(0, 2, 2), 0);
        x.follow(0, 1);
        Checks.due("asks", x.between(0, 0, 1), 1);
        Checks.due("who is asked", x.between(0, 1, 0), 0);
        x.answer(1, 0, true);
        Checks.due("follows, and asks no more", x.between(0, 0, 1), 2);
        Checks.due("who is followed", x.between(0, 1, 0), 0);
        x.block(1, 0, true);
        Checks.due("blocks", x.between(0, 1, 0), 4);
        Checks.due("who is blocked", x.between(0, 0, 1), 0);
        x.block(0, 1, true);
        Checks.due("both block", x.between(0, 0, 1), 4);
        x.alias(0, 2);
        x.post(0, PUBLIC, 4, NONE);
        x.boost(2, 0);
        Checks.due("aliases, names and boosts are nothing between two", x.between(0, 0, 2) + x.between(0, 2, 0), 0);
        for (int server = 1; server < 4; server++) {
            Checks.due("not known at " + server, x.between(server, 0, 1), 0);
        }
    }

    private static void seesIfKnown() {
        Checks.holds("Posts; promises 16 and 17", SEES);
        Villagepost x = Checks.village(0, 1, 0, 2);
        x.post(0, PUBLIC, 2, NONE);
        both("one's own, at once", x, 0, 0, true);
        both("another one's, at the same server", x, 2, 0, true);
        both("not known there yet", x, 1, 0, false);
        both("never known there", x, 3, 0, false);
        Checks.settle(x);
        both("known there", x, 1, 0, true);
        both("never known there", x, 3, 0, false);
        x.delete(0);
        both("one's own, deleted", x, 0, 0, false);
        both("another one's, deleted", x, 2, 0, false);
        both("not deleted there yet", x, 1, 0, true);
        Checks.settle(x);
        both("deleted there", x, 1, 0, false);
    }

    private static void seesUnlessBlocked() {
        Checks.holds("Posts; promises 16 and 17", SEES);
        for (int blocker = 0; blocker < 2; blocker++) {
            int one = blocker;
            Villagepost x = Checks.village(0, 1, 1);
            Checks.makeFollower(x, 1, 0);
            x.post(0, PUBLIC, 0, NONE);
            x.post(0, FOLLOWERS, 2, NONE);
            x.post(0, DIRECT, 2 + 4, NONE);
            Checks.settle(x);
            x.block(one, 1 - one, true);
            for (int post = 0; post < 3; post++) {
                both("a block of " + one, x, 1, post, one == 0);
                both("one's own, at the one's server", x, 0, post, true);
            }
            Checks.settle(x);
            for (int post = 0; post < 3; post++) {
                both("a block of " + one + " that is known there", x, 1, post, false);
                both("one's own", x, 0, post, true);
                both("another one at that server", x, 2, post, post != 1);
            }
            x.block(one, 1 - one, false);
            Checks.settle(x);
            for (int post = 0; post < 3; post++) {
                both("no block any more, though no follow", x, 1, post, true);
            }
        }
        // A block with somebody else, as who is named or has boosted, hides nothing.
        Villagepost x = Checks.village(0, 0, 0, 0);
        x.post(0, PUBLIC, 8, NONE);
        x.boost(1, 0);
        x.block(2, 1, true);
        x.block(2, 3, true);
        both("a block with others than the author", x, 2, 0, true);
    }

    private static void seesByKind() {
        Checks.holds("Posts; promises 16 and 17", SEES);
        // At server 1: 1 follows 0, 2 asks 0, 3 is named, 4 is followed by 0, 5 is nothing to 0.
        Villagepost x = Checks.village(0, 1, 1, 1, 1, 1);
        Checks.makeFollower(x, 1, 0);
        Checks.makeFollower(x, 0, 4);
        x.follow(2, 0);
        for (int kind = PUBLIC; kind <= DIRECT; kind++) {
            x.post(0, kind, 8, NONE);
        }
        x.post(0, DIRECT, 0, NONE);
        Checks.settle(x);
        boolean[][] want = {
            {true, true, true, true, true, true},
            {true, true, false, true, false, false},
            {true, false, false, true, false, false},
            {true, false, false, false, false, false},
        };
        for (int post = 0; post < want.length; post++) {
            for (int person = 0; person < 6; person++) {
                both("post " + post + " by " + person, x, person, post, want[post][person]);
            }
        }
    }

    private static void seesAsFollower() {
        Checks.holds("Posts; promises 16 and 17", "or it is to FOLLOWERS, and they follow its author there");
        Villagepost x = Checks.village(0, 1, 1, 1);
        x.post(0, FOLLOWERS, 4, NONE);
        x.follow(1, 0);
        Checks.settle(x);
        both("who asks", x, 1, 0, false);
        x.answer(0, 1, true);
        both("accepted, which is not known there yet", x, 1, 0, false);
        x.deliver(1);
        both("who follows since then", x, 1, 0, true);
        x.post(0, DIRECT, 4, NONE);
        Checks.settle(x);
        both("a direct one is not to followers", x, 1, 1, false);
        x.leave(1, 0);
        both("who has left", x, 1, 0, false);
        both("who is named, and does not follow", x, 2, 0, true);
        // A follower by a move, as is known there.
        Villagepost y = Checks.village(0, 0, 1, 1);
        Checks.makeFollower(y, 2, 1);
        y.post(0, FOLLOWERS, 8, NONE);
        y.alias(0, 1);
        y.move(1, 0);
        y.deliver(1);
        both("before the move is known", y, 2, 0, false);
        y.deliver(1);
        both("after the move", y, 2, 0, true);
    }

    private static void foundAnew() {
        Checks.holds("Promise 17", "Tells the same, found again from the log of their server alone, act by act.");
        Villagepost x = Checks.village(0, 1, 2, 0, 1);
        x.post(0, PUBLIC, 2, NONE);
        x.post(0, FOLLOWERS, 2, NONE);
        x.post(1, DIRECT, 1, NONE);
        for (int round = 0; round < 3; round++) {
            for (int person = 0; person < 5; person++) {
                for (int post = 0; post < 3; post++) {
                    Checks.due("the same for " + person + " and " + post, x.seesAnew(person, post), x.sees(person, post));
                }
            }
            x.deliver(round % 2);
        }
        both("what another server knows does not matter", x, 2, 0, false);
        // What was found for a server is forgotten for the next one: server 0 knows a follow, server 1 does not yet.
        Villagepost y = Checks.village(0, 1, 1);
        y.post(0, FOLLOWERS, 4, NONE);
        y.follow(1, 0);
        Checks.settle(y);
        y.answer(0, 1, true);
        for (int i = 0; i < 2; i++) {
            both("as server 0 knows", y, 0, 0, true);
            both("as server 1 knows", y, 1, 0, false);
        }
        int acts = x.ofServer(0, 1);
        x.seesAnew(0, 0);
        Checks.due("asking is no act", x.ofServer(0, 1), acts);
        Checks.due("nor does it forget", x.sees(0, 0), true);
    }

    private static void foundAnewInOrder() {
        Checks.holds("Promise 17", "found again from the log of their server alone, act by act");
        // Each act changes what is seen at server 1: the log must be done in its order, and wholly.
        Villagepost x = Checks.village(0, 1, 1);
        x.post(0, FOLLOWERS, 4, NONE);
        x.follow(1, 0);
        Checks.settle(x);
        both("asks", x, 1, 0, false);
        x.answer(0, 1, false);
        Checks.settle(x);
        both("refused", x, 1, 0, false);
        Checks.makeFollower(x, 1, 0);
        both("accepted", x, 1, 0, true);
        x.leave(1, 0);
        both("left", x, 1, 0, false);
        Checks.makeFollower(x, 1, 0);
        both("accepted again", x, 1, 0, true);
        x.block(1, 0, true);
        both("blocked", x, 1, 0, false);
        x.block(1, 0, false);
        both("the block is gone, and the follow", x, 1, 0, false);
        Checks.settle(x);
        Checks.makeFollower(x, 1, 2);
        x.alias(0, 2);
        Checks.settle(x);
        x.move(2, 0);
        both("by a move", x, 1, 0, true);
        x.post(0, PUBLIC, 4, NONE);
        both("not there yet", x, 1, 1, false);
        Checks.settle(x);
        both("come", x, 1, 1, true);
        x.delete(1);
        Checks.settle(x);
        both("deleted", x, 1, 1, false);
        x.post(0, PUBLIC, 0, NONE);
        x.boost(0, 2);
        both("not boosted there yet", x, 2, 2, false);
        Checks.settle(x);
        both("boosted", x, 2, 2, true);
    }

    private static void homeOfWhatOneSees() {
        Checks.holds("Posts; promise 18", "At home one has posts that one sees, and");
        Villagepost x = Checks.village(0, 1);
        Checks.makeFollower(x, 1, 0);
        x.post(0, PUBLIC, 2, NONE);
        x.post(0, DIRECT, 0, NONE);
        x.post(0, FOLLOWERS, 0, NONE);
        Checks.home("not known there yet", x, 1);
        Checks.settle(x);
        Checks.home("a direct one is not seen by a follower", x, 1, 2, 0);
        x.delete(2);
        Checks.home("not deleted there yet", x, 1, 2, 0);
        Checks.home("deleted", x, 0, 1, 0);
        Checks.settle(x);
        Checks.home("deleted there", x, 1, 0);
        x.block(0, 1, true);
        Checks.home("not blocked there yet", x, 1, 0);
        Checks.settle(x);
        Checks.home("a block hides what one is named in", x, 1);
        Checks.home("not one's own", x, 0, 1, 0);
    }

    private static void homeOfEachKind() {
        Checks.holds("Posts; promise 18", AT_HOME);
        // 1 follows 0; 2 is named; 3 asks 0; all at one server, so that each post is known to each.
        Villagepost x = Checks.village(0, 0, 0, 0);
        x.follow(1, 0);
        x.answer(0, 1, true);
        x.follow(3, 0);
        x.post(0, PUBLIC, 4, NONE);
        x.post(0, FOLLOWERS, 4, NONE);
        x.post(0, DIRECT, 4, NONE);
        x.post(3, PUBLIC, 0, 0);
        Checks.home("the author", x, 0, 2, 1, 0);
        Checks.home("a follower, but not of what is direct", x, 1, 1, 0);
        Checks.home("who is named", x, 2, 2, 1, 0);
        Checks.home("who asks, and has replied", x, 3, 3);
        Checks.due("a reply to one is seen", x.sees(0, 3), true);
        x.post(3, PUBLIC, 1, NONE);
        Checks.home("named by another one", x, 0, 4, 2, 1, 0);
        x.leave(1, 0);
        Checks.home("a follower no more", x, 1);
        Checks.due("though it is seen", x.sees(1, 0), true);
    }

    private static void homeByBoosts() {
        Checks.holds("Posts; promise 18", "or follows somebody who has boosted it, there");
        // 1 and 4 at server 1: 1 follows 2 at server 2, who boosts a post of 0.
        Villagepost x = Checks.village(0, 1, 2, 0, 1);
        Checks.makeFollower(x, 1, 2);
        x.post(0, PUBLIC, 2 + 4, NONE);
        x.post(0, PUBLIC, 4, NONE);
        Checks.settle(x);
        Checks.home("named in one", x, 1, 0);
        x.boost(2, 1);
        Checks.home("boosted, which is not known there yet", x, 1, 0);
        x.deliver(1);
        Checks.home("boosted by who is followed", x, 1, 1, 0);
        Checks.home("not of who follows nobody", x, 4);
        Checks.due("though it is seen", x.sees(4, 1), true);
        x.boost(4, 1);
        Checks.home("one's own boost brings nothing", x, 4);
        Checks.makeFollower(x, 4, 1);
        Checks.home("nor do names of who is followed", x, 4);
        x.boost(1, 1);
        Checks.home("a boost by who is followed", x, 4, 1);
        x.leave(4, 1);
        Checks.home("who is followed no more", x, 4);
        x.leave(1, 2);
        x.follow(1, 2);
        Checks.home("who is asked is not followed", x, 1, 0);
        Checks.makeFollower(x, 4, 2);
        Checks.home("a boost that came before the follow", x, 4, 1);
        x.block(4, 0, true);
        Checks.home("a block with the author hides it", x, 4);
        x.block(4, 0, false);
        Checks.home("and shows it", x, 4, 1);
        x.delete(1);
        Checks.home("where no mark comes it stays", x, 4, 1);
        Checks.due("the mark goes to 2 alone, and two packets of the block to 0", Checks.waiting(x), 2010);
    }

    private static void homeByBoostsOfEach() {
        Checks.holds("Posts; promise 18", "or follows somebody who has boosted it, there");
        for (int i = 0; i < 10; i++) {
            Villagepost x = new Villagepost();
            for (int person = 0; person < 10; person++) {
                x.person(0);
            }
            int follower = (i + 1) % 10;
            int author = (i + 2) % 10;
            for (int post = 0; post < 3; post++) {
                x.post(author, PUBLIC, 0, NONE);
            }
            x.boost(i, 0);
            x.boost(i, 2);
            Checks.home("not by who is not followed", x, follower);
            x.follow(follower, i);
            x.answer(i, follower, true);
            Checks.home("all that " + i + " has boosted", x, follower, 2, 0);
        }
    }

    private static void homeInOrder() {
        Checks.holds("Posts; promise 18", "the one with the greatest number first");
        // The posts come to server 1 in another order than that of their numbers.
        Villagepost x = Checks.village(0, 1, 2);
        Checks.makeFollower(x, 1, 2);
        x.post(0, PUBLIC, 4, NONE);
        x.post(2, PUBLIC, 0, NONE);
        x.deliver(2);
        x.boost(2, 0);
        x.post(1, DIRECT, 0, NONE);
        Checks.home("own", x, 1, 2);
        Checks.due("packet", x.deliver(1), Villagepost.POST);
        Checks.home("own, and one that came", x, 1, 2, 1);
        Checks.due("packet", x.deliver(1), Villagepost.BOOST);
        Checks.home("the first post came last", x, 1, 2, 1, 0);
        x.post(2, PUBLIC, 0, NONE);
        x.deliver(1);
        Checks.home("a greater one", x, 1, 3, 2, 1, 0);
    }

    private static void firstPlace() {
        Checks.holds("Promise 18", "0 for the first one");
        Villagepost x = Checks.village(0);
        for (int post = 0; post < 4; post++) {
            x.post(0, PUBLIC, 0, NONE);
            Checks.due("the newest at 0", x.home(0, 0), post);
            Checks.due("the oldest last", x.home(0, post), 0);
        }
    }

    private static void homePlaces() {
        Checks.holds("Promise 18", "Returns the post; NONE if there are not so many.");
        Villagepost x = Checks.village(0, 1);
        Checks.due("none at all", x.home(0, 0), NONE);
        Checks.due("none at the greatest place", x.home(0, Integer.MAX_VALUE), NONE);
        x.post(0, DIRECT, 0, NONE);
        Checks.due("one", x.home(0, 0), 0);
        Checks.due("not two", x.home(0, 1), NONE);
        Checks.due("none of another one", x.home(1, 0), NONE);
        x.post(0, DIRECT, 2, NONE);
        x.post(0, DIRECT, 0, NONE);
        Checks.home("three", x, 0, 2, 1, 0);
        Checks.due("not so many", x.home(0, 50), NONE);
        x.delete(1);
        Checks.home("two, without a gap", x, 0, 2, 0);
        Checks.settle(x);
        Checks.due("none there", x.home(1, 0), NONE);
        x.delete(0);
        x.delete(2);
        Checks.home("none", x, 0);
    }
}
