/** The section "Follows" of the document, sentence by sentence, at its edges (promises 3 to 8). */
public final class FollowsSentencesTest {
    public static void main(String[] args) {
        follow();
        followUnlessFollowing();
        accept();
        acceptIfTheAskIsThere();
        answerOfAnEarlierAsk();
        refuse();
        leave();
        blockTakesAway();
        blockHoldsOffAsks();
        blockHoldsOffFollows();
        blockCountsAsDone();
        blockAsLongAsItIsKnown();
        unblock();
        alias();
        aliasInPlace();
        moveAsIsKnown();
        moveTellsNobody();
        moveTellsWhoFollowThen();
        moveWhereItIsDone();
        moveUnlessBlocked();
        moveUnlessItIsTheNewOne();
        moveEndsTheAsk();
        moveGoesToServers();
        moveOfAllTen();
        Checks.finish("FollowsSentencesTest");
    }

    private static void between(String what, Villagepost x, int server, int person, int other, int want) {
        Checks.due(what + ", between " + person + " and " + other + " at " + server, x.between(server, person, other), want);
    }

    /** At the four servers, one digit each. */
    private static void everywhere(String what, Villagepost x, int person, int other, int want) {
        int got = 0;
        for (int server = 0; server < 4; server++) {
            got = got * 10 + x.between(server, person, other);
        }
        Checks.due(what + ", between " + person + " and " + other + " at 0 to 3", got, want);
    }

    private static void follow() {
        Checks.holds("Follows; promise 3", "To FOLLOW asks: one asks the other");
        Villagepost x = Checks.village(0, 1, 2, 3, 0);
        x.follow(0, 1);
        everywhere("asks, not follows, at home at once", x, 0, 1, 1000);
        everywhere("not the other way", x, 1, 0, 0);
        Checks.holds("Follows; promise 3", "it goes to the server of the other one");
        Checks.due("to server 1 alone", Checks.waiting(x), 100);
        Checks.delivers(x, 1, Villagepost.FOLLOW);
        everywhere("asks there too", x, 0, 1, 1100);
        x.follow(0, 4);
        Checks.due("to nobody within a server", Checks.waiting(x), 0);
        everywhere("asks within a server", x, 0, 4, 1000);
        x.follow(3, 0);
        Checks.due("from the last server to the first", Checks.waiting(x), 1000);
        x.follow(0, 3);
        Checks.due("from the first server to the last", Checks.waiting(x), 1001);
    }

    private static void followUnlessFollowing() {
        Checks.holds("Follows; promise 3", "one asks the other, unless the one follows them");
        // At server 1 the move comes first, that makes 2 a follower of 1; then 2's own ask.
        Villagepost x = Checks.village(0, 1, 2);
        Checks.makeFollower(x, 2, 0);
        x.alias(1, 0);
        Checks.settle(x);
        x.move(0, 1);
        x.follow(2, 1);
        Checks.delivers(x, 1, Villagepost.MOVE);
        int acts = x.ofServer(1, 1);
        Checks.delivers(x, 1, Villagepost.FOLLOW);
        between("follows, and does not ask", x, 1, 2, 1, 2);
        Checks.due("no ask is counted", x.ofServer(1, 5), 0);
        Checks.due("it counts as done", x.ofServer(1, 1), acts + 1);
        // The other way is another matter: who is followed asks.
        x.follow(1, 2);
        between("who is followed asks", x, 1, 1, 2, 1);
    }

    private static void accept() {
        Checks.holds("Follows; promise 4", "To ACCEPT an ask makes a follower of who asked");
        Villagepost x = Checks.village(0, 1, 1);
        x.follow(0, 1);
        x.follow(0, 2);
        Checks.settle(x);
        x.answer(1, 0, true);
        everywhere("follows where it was accepted", x, 0, 1, 1200);
        everywhere("another ask is not accepted", x, 0, 2, 1100);
        everywhere("not the other way", x, 1, 0, 0);
        Checks.holds("Follows; promise 4", "both go to the server of who asked");
        Checks.due("to server 0 alone", Checks.waiting(x), 1000);
        x.answer(2, 0, false);
        Checks.due("to server 0 alone", Checks.waiting(x), 2000);
        Checks.delivers(x, 0, Villagepost.ACCEPT, Villagepost.REFUSE);
        everywhere("follows", x, 0, 1, 2200);
        everywhere("refused", x, 0, 2, 0);
        x.follow(1, 2);
        x.answer(2, 1, true);
        Checks.due("to nobody within a server", Checks.waiting(x), 0);
        everywhere("accepted within a server", x, 1, 2, 200);
    }

    private static void acceptIfTheAskIsThere() {
        Checks.holds("Follows; promise 4", "if the ask is there still");
        Villagepost x = Checks.village(0, 1);
        x.follow(0, 1);
        Checks.delivers(x, 1, Villagepost.FOLLOW);
        x.leave(0, 1);
        x.answer(1, 0, true);
        Checks.delivers(x, 0, Villagepost.ACCEPT);
        everywhere("withdrawn before", x, 0, 1, 200);
        Checks.due("it counts as done", x.ofServer(0, 1), 3);
        Checks.delivers(x, 1, Villagepost.LEAVE);
        everywhere("withdrawn there too", x, 0, 1, 0);

        Villagepost y = Checks.village(0, 1);
        y.follow(0, 1);
        Checks.delivers(y, 1, Villagepost.FOLLOW);
        y.block(0, 1, true);
        y.answer(1, 0, true);
        Checks.delivers(y, 0, Villagepost.ACCEPT);
        everywhere("taken away by a block before", y, 0, 1, 4200);
        y.block(0, 1, false);
        everywhere("nor does the end of the block bring it", y, 0, 1, 200);

        // Who follows by a move does not ask: there is no ask to accept, and the follow stays.
        Villagepost z = askedAndMoved();
        z.answer(1, 0, true);
        Checks.delivers(z, 0, Villagepost.MOVE, Villagepost.ACCEPT);
        between("follows already", z, 0, 0, 1, 2);
        Checks.due("one follow", z.ofServer(0, 4), 1);
    }

    /** An answer meets the ask that is known where it comes, also where that was taken back and asked anew. */
    private static void answerOfAnEarlierAsk() {
        Checks.holds("Terms; promise 4", "What follows is as a server knows it: what was done there.");
        Villagepost x = askedAnew(true);
        Checks.delivers(x, 0, Villagepost.ACCEPT);
        everywhere("an ask is there", x, 0, 1, 2200);
        Checks.delivers(x, 1, Villagepost.LEAVE);
        everywhere("left, as the other server knows", x, 0, 1, 2000);
        Checks.delivers(x, 1, Villagepost.FOLLOW);
        everywhere("asked anew, as the other server knows", x, 0, 1, 2100);
        x.answer(1, 0, true);
        Checks.delivers(x, 0, Villagepost.ACCEPT);
        everywhere("accepted anew", x, 0, 1, 2200);

        Villagepost y = askedAnew(false);
        Checks.delivers(y, 0, Villagepost.REFUSE);
        everywhere("the ask that is there is taken away", y, 0, 1, 0);
        Checks.delivers(y, 1, Villagepost.LEAVE, Villagepost.FOLLOW);
        everywhere("asked anew, as the other server knows", y, 0, 1, 100);
    }

    /** 0 at server 0 asked 1 at server 1, who answered; before that comes, 0 has left and asked anew. */
    private static Villagepost askedAnew(boolean accepted) {
        Villagepost x = Checks.village(0, 1);
        x.follow(0, 1);
        Checks.delivers(x, 1, Villagepost.FOLLOW);
        x.answer(1, 0, accepted);
        x.leave(0, 1);
        x.follow(0, 1);
        everywhere("asks anew", x, 0, 1, accepted ? 1200 : 1000);
        return x;
    }

    /** 0 at server 0 asks 1 at server 1; 2 moves to 1, with 0, which neither server knows yet. */
    private static Villagepost askedAndMoved() {
        Villagepost x = Checks.village(0, 1, 2);
        Checks.makeFollower(x, 0, 2);
        x.alias(1, 2);
        x.follow(0, 1);
        Checks.settle(x);
        Checks.due("told", x.move(2, 1), 1);
        return x;
    }

    private static void refuse() {
        Checks.holds("Follows; promise 4", "to REFUSE takes the ask away");
        Villagepost x = askedAndMoved();
        x.answer(1, 0, false);
        between("the ask is taken away at home", x, 1, 0, 1, 0);
        Checks.delivers(x, 0, Villagepost.MOVE);
        between("follows by a move", x, 0, 0, 1, 2);
        Checks.delivers(x, 0, Villagepost.REFUSE);
        between("a follow is not taken away", x, 0, 0, 1, 2);

        Villagepost y = Checks.village(0, 1, 1);
        y.follow(0, 1);
        y.follow(0, 2);
        Checks.settle(y);
        y.follow(1, 0);
        Checks.settle(y);
        y.answer(1, 0, false);
        Checks.settle(y);
        everywhere("that ask", y, 0, 1, 0);
        everywhere("not another one", y, 0, 2, 1100);
        everywhere("not the other way", y, 1, 0, 1100);
    }

    private static void leave() {
        Checks.holds("Follows; promise 5", "To LEAVE takes an ask or a follow away; it goes to the server of the other one.");
        Villagepost x = Checks.village(0, 1, 2, 0);
        Checks.makeFollower(x, 1, 0);
        Checks.makeFollower(x, 0, 2);
        x.follow(0, 1);
        Checks.settle(x);
        x.leave(0, 1);
        everywhere("an ask, at home", x, 0, 1, 100);
        Checks.due("to server 1 alone", Checks.waiting(x), 100);
        Checks.delivers(x, 1, Villagepost.LEAVE);
        everywhere("an ask, there", x, 0, 1, 0);
        everywhere("not the other way", x, 1, 0, 2200);
        everywhere("not another one", x, 0, 2, 2020);
        x.leave(0, 2);
        everywhere("a follow, at home", x, 0, 2, 20);
        Checks.due("to server 2 alone", Checks.waiting(x), 10);
        Checks.delivers(x, 2, Villagepost.LEAVE);
        everywhere("a follow, there", x, 0, 2, 0);
        x.follow(0, 3);
        x.leave(0, 3);
        Checks.due("to nobody within a server", Checks.waiting(x), 0);
        everywhere("an ask within a server", x, 0, 3, 0);

        // An ask that is refused and withdrawn at once: nothing is left to take away.
        Villagepost y = Checks.village(0, 1);
        y.follow(0, 1);
        Checks.delivers(y, 1, Villagepost.FOLLOW);
        y.answer(1, 0, false);
        y.leave(0, 1);
        Checks.delivers(y, 1, Villagepost.LEAVE);
        Checks.delivers(y, 0, Villagepost.REFUSE);
        everywhere("neither there nor here", y, 0, 1, 0);
        Checks.due("both count as done", y.ofServer(0, 1) * 10 + y.ofServer(1, 1), 33);
    }

    /** 0 at server 0 and 1 at server 1, who ask or follow one another, and 2 at server 1 besides. */
    private static Villagepost pair(boolean oneFollows, boolean otherFollows) {
        Villagepost x = Checks.village(0, 1, 1);
        x.follow(0, 1);
        x.follow(1, 0);
        x.follow(0, 2);
        x.follow(2, 0);
        x.follow(1, 2);
        Checks.settle(x);
        if (oneFollows) {
            x.answer(1, 0, true);
        }
        if (otherFollows) {
            x.answer(0, 1, true);
        }
        Checks.settle(x);
        everywhere("before", x, 0, 1, oneFollows ? 2200 : 1100);
        everywhere("before", x, 1, 0, otherFollows ? 2200 : 1100);
        return x;
    }

    private static void blockTakesAway() {
        Checks.holds("Follows; promise 6", "To BLOCK somebody takes away asks and follows between both, both ways; it goes to the server of the other one");
        for (int i = 0; i < 4; i++) {
            Villagepost x = pair(i % 2 == 1, i / 2 == 1);
            x.block(0, 1, true);
            between("own ask or follow", x, 0, 0, 1, 4);
            between("the other one's ask or follow", x, 0, 1, 0, 0);
            Checks.due("to server 1 alone", Checks.waiting(x), 100);
            between("not there yet", x, 1, 1, 0, i / 2 == 1 ? 2 : 1);
            Checks.delivers(x, 1, Villagepost.BLOCK);
            everywhere("there too", x, 0, 1, 4400);
            everywhere("there too", x, 1, 0, 0);
            everywhere("not with others", x, 0, 2, 1100);
            everywhere("not with others", x, 2, 0, 1100);
            everywhere("not with others", x, 1, 2, 100);
            Checks.due("asks left", x.ofServer(0, 5) * 10 + x.ofServer(1, 5), 23);
            Checks.due("follows left", x.ofServer(0, 4) + x.ofServer(1, 4), 0);
        }
        Villagepost y = Checks.village(2, 2);
        y.follow(0, 1);
        y.block(1, 0, true);
        Checks.due("to nobody within a server", Checks.waiting(y), 0);
        everywhere("within a server", y, 0, 1, 0);
        everywhere("within a server", y, 1, 0, 40);
    }

    private static void blockHoldsOffAsks() {
        Checks.holds("Follows; promise 6", "as long as a block between both is known at a server, asks and follows between them are not done there");
        Villagepost x = Checks.village(0, 1);
        x.block(0, 1, true);
        x.follow(1, 0);
        Checks.delivers(x, 0, Villagepost.FOLLOW);
        everywhere("who is blocked asks", x, 1, 0, 100);
        Checks.due("no ask", x.ofServer(0, 5), 0);

        Villagepost y = Checks.village(0, 1);
        y.block(1, 0, true);
        y.follow(0, 1);
        Checks.delivers(y, 1, Villagepost.FOLLOW);
        everywhere("who was not told of the block asks", y, 0, 1, 1000);
        Checks.due("no ask", y.ofServer(1, 5), 0);
        Checks.delivers(y, 0, Villagepost.BLOCK);
        everywhere("and learns of it", y, 0, 1, 0);
    }

    private static void blockHoldsOffFollows() {
        Checks.holds("Follows; promises 4 and 6", "as long as a block between both is known at a server, asks and follows between them are not done there");
        // The ask was there when the block was done: the accept that comes then makes no follower.
        Villagepost x = Checks.village(0, 1);
        x.follow(0, 1);
        Checks.delivers(x, 1, Villagepost.FOLLOW);
        x.answer(1, 0, true);
        x.block(0, 1, true);
        Checks.delivers(x, 0, Villagepost.ACCEPT);
        everywhere("the accept comes to who asked and blocks", x, 0, 1, 4200);
        Checks.delivers(x, 1, Villagepost.BLOCK);
        everywhere("the block comes to who accepted", x, 0, 1, 4400);
        Checks.due("no follow", x.ofServer(0, 4) + x.ofServer(1, 4), 0);
        Checks.refused("nor is there an ask to accept", Checks.STATE, () -> x.answer(1, 0, true));
    }

    private static void blockCountsAsDone() {
        Checks.holds("Follows; promises 6 and 13", "(such an act counts as done)");
        Villagepost x = Checks.village(0, 1);
        x.block(0, 1, true);
        x.follow(1, 0);
        Checks.due("acts before", x.ofServer(0, 1), 1);
        Checks.delivers(x, 0, Villagepost.FOLLOW);
        Checks.due("acts after", x.ofServer(0, 1), 2);
        x.block(0, 1, false);
        Checks.due("acts with the unblock", x.ofServer(0, 1), 3);
        Checks.due("repeated", x.repeat(0), Villagepost.FOLLOW);
        between("it is not done again", x, 0, 1, 0, 0);
        Checks.due("nor counted", x.ofServer(0, 1), 3);
        Checks.refused("no ask to answer", Checks.STATE, () -> x.answer(0, 1, true));
    }

    private static void blockAsLongAsItIsKnown() {
        Checks.holds("Follows; promise 6", "as long as a block between both is known at a server");
        Villagepost x = Checks.village(0, 1, 0);
        x.block(0, 1, true);
        x.follow(2, 1);
        x.follow(1, 2);
        Checks.settle(x);
        everywhere("others ask one who is blocked", x, 2, 1, 1100);
        everywhere("who is blocked asks others", x, 1, 2, 1100);
        x.block(1, 0, true);
        x.block(0, 1, false);
        Checks.settle(x);
        Checks.refused("the other block is there still", Checks.STATE, () -> x.follow(0, 1));
        Checks.refused("one's own block is there still", Checks.STATE, () -> x.follow(1, 0));
        x.block(1, 0, false);
        x.follow(1, 0);
        Checks.delivers(x, 0, Villagepost.UNBLOCK, Villagepost.FOLLOW);
        everywhere("no block is known any more", x, 1, 0, 1100);
        // Where the end of the block is not known yet, it holds.
        Villagepost y = Checks.village(0, 1);
        y.block(0, 1, true);
        Checks.settle(y);
        y.block(0, 1, false);
        Checks.refused("known at server 1 still", Checks.STATE, () -> y.follow(1, 0));
        Checks.refused("known at server 0 no more", "nothing", () -> y.follow(0, 1));
        Checks.delivers(y, 1, Villagepost.UNBLOCK, Villagepost.FOLLOW);
        everywhere("done behind the unblock", y, 0, 1, 1100);
    }

    private static void unblock() {
        Checks.holds("Follows; promise 6", "To UNBLOCK takes one's own block away; it goes likewise.");
        Villagepost x = Checks.village(0, 1, 2);
        x.block(0, 1, true);
        x.block(1, 0, true);
        x.block(0, 2, true);
        x.block(1, 2, true);
        Checks.settle(x);
        everywhere("both block", x, 0, 1, 4400);
        everywhere("both block", x, 1, 0, 4400);
        x.block(0, 1, false);
        Checks.due("to server 1 alone", Checks.waiting(x), 100);
        everywhere("taken away at home", x, 0, 1, 400);
        Checks.delivers(x, 1, Villagepost.UNBLOCK);
        everywhere("taken away there", x, 0, 1, 0);
        everywhere("not the other one's", x, 1, 0, 4400);
        everywhere("not one with another", x, 0, 2, 4040);
        everywhere("not another one's", x, 1, 2, 440);
        x.alias(1, 0);
        Checks.settle(x);
        x.block(1, 2, false);
        x.block(1, 0, false);
        Checks.settle(x);
        Checks.due("an alias is not touched", x.move(0, 1), 0);
        Checks.refused("nor is there another one", Checks.STATE, () -> x.move(2, 1));
        // What the block took away does not come back.
        Villagepost y = Checks.village(0, 1);
        Checks.makeFollower(y, 0, 1);
        y.block(1, 0, true);
        y.block(1, 0, false);
        Checks.settle(y);
        everywhere("no follow comes back", y, 0, 1, 0);
    }

    private static void alias() {
        Checks.holds("Follows; promise 7", "Somebody can have an ALIAS: another one who they say that they were; it goes to the server of that one.");
        Villagepost x = Checks.village(0, 1, 2, 1);
        x.alias(1, 0);
        Checks.due("to server 0 alone", Checks.waiting(x), 1000);
        Checks.refused("not known there yet", Checks.STATE, () -> x.move(0, 1));
        Checks.delivers(x, 0, Villagepost.ALIAS);
        Checks.refused("another one's", Checks.STATE, () -> x.move(0, 3));
        Checks.refused("the other way", Checks.STATE, () -> x.move(1, 0));
        Checks.due("known there", x.move(0, 1), 0);
        x.alias(1, 3);
        Checks.due("to nobody within a server, but of the move", Checks.waiting(x), 100);
        Checks.due("known at once within a server", x.move(3, 1), 0);
        x.alias(2, 0);
        Checks.delivers(x, 0, Villagepost.ALIAS);
        Checks.due("two can have one as an alias", x.move(0, 2), 0);
        Checks.due("the other of them has them still, as server 0 knows", x.move(0, 1), 0);
    }

    private static void aliasInPlace() {
        Checks.holds("Promise 7", "ALIAS, in place of one.");
        Villagepost x = Checks.village(0, 1, 0);
        x.alias(1, 0);
        x.alias(1, 2);
        Checks.delivers(x, 0, Villagepost.ALIAS);
        Checks.due("the first one", x.move(0, 1), 0);
        Checks.refused("not the second one yet", Checks.STATE, () -> x.move(2, 1));
        Checks.delivers(x, 0, Villagepost.ALIAS);
        Checks.due("the second one", x.move(2, 1), 0);
        Checks.refused("the first one no more", Checks.STATE, () -> x.move(0, 1));
        x.alias(1, 0);
        Checks.delivers(x, 0, Villagepost.ALIAS);
        Checks.due("the first one again", x.move(0, 1), 0);
    }

    private static void moveAsIsKnown() {
        Checks.holds("Follows; promise 8", "To MOVE to a person who has one as an alias, as is known at one's own server, tells all who follow then, as is known there");
        // 3 follows 0, as server 1 knows by a move of 4 that server 0 does not know yet.
        Villagepost x = Checks.village(0, 1, 2, 1, 1);
        x.alias(1, 0);
        x.alias(0, 4);
        Checks.makeFollower(x, 2, 0);
        Checks.makeFollower(x, 3, 4);
        Checks.due("4 moves to 0", x.move(4, 0), 1);
        Checks.due("0 moves to 1, and tells 2", x.move(0, 1), 1);
        Checks.delivers(x, 1, Villagepost.MOVE);
        between("who was not told follows the old one still", x, 1, 3, 0, 2);
        between("who was not told does not follow the new one", x, 1, 3, 1, 0);
        between("who was told follows the new one", x, 1, 2, 1, 2);
        Checks.delivers(x, 0, Villagepost.MOVE);
        between("the first move comes late", x, 0, 3, 0, 2);
        Checks.due("now 3 is told too", x.move(0, 1), 1);
        Checks.settle(x);
        everywhere("3 follows the new one", x, 3, 1, 2200);
        everywhere("3 follows the old one no more", x, 3, 0, 0);
    }

    private static void moveTellsNobody() {
        Checks.holds("Promise 8", "Returns how many are told.");
        Villagepost x = Checks.village(0, 1, 2);
        x.alias(1, 0);
        x.follow(2, 0);
        Checks.settle(x);
        Checks.due("who asks is not told", x.move(0, 1), 0);
        Checks.due("to the server of the new one all the same", Checks.waiting(x), 100);
        everywhere("who asks asks still", x, 2, 0, 1010);
        x.answer(0, 2, true);
        Checks.due("who follows is told", x.move(0, 1), 1);
        Checks.due("who was told follows no more", x.move(0, 1), 0);
        Checks.makeFollower(x, 1, 0);
        Checks.due("the new one is told", x.move(0, 1), 1);
    }

    private static void moveTellsWhoFollowThen() {
        Checks.holds("Follows; promise 8", "tells all who follow then");
        // 3 at the server of the new one is accepted after the move.
        Villagepost x = Checks.village(0, 1, 2, 1);
        Checks.makeFollower(x, 2, 0);
        x.alias(1, 0);
        x.follow(3, 0);
        Checks.settle(x);
        Checks.due("told", x.move(0, 1), 1);
        x.answer(0, 3, true);
        Checks.delivers(x, 1, Villagepost.MOVE, Villagepost.ACCEPT);
        everywhere("a later follower stays", x, 3, 0, 2200);
        everywhere("a later follower is not taken along", x, 3, 1, 0);
        // Who has left, as the old one's server does not know, is told.
        Villagepost y = Checks.village(0, 1, 2);
        Checks.makeFollower(y, 2, 0);
        y.alias(1, 0);
        Checks.settle(y);
        y.leave(2, 0);
        Checks.due("told", y.move(0, 1), 1);
        Checks.settle(y);
        everywhere("each follows the new one", y, 2, 1, 2220);
        everywhere("none follows the old one", y, 2, 0, 0);
    }

    private static void moveWhereItIsDone() {
        Checks.holds("Follows; promise 8", "where it is done, none of these follows the old one any more; and each");
        Villagepost x = Checks.village(0, 1, 2, 3, 3);
        Checks.makeFollower(x, 2, 0);
        Checks.makeFollower(x, 3, 0);
        Checks.makeFollower(x, 4, 2);
        Checks.makeFollower(x, 0, 2);
        x.alias(1, 0);
        Checks.settle(x);
        Checks.due("told", x.move(0, 1), 2);
        everywhere("at home at once", x, 2, 0, 20);
        everywhere("at home at once", x, 2, 1, 2000);
        Checks.delivers(x, 3, Villagepost.MOVE);
        everywhere("at 3", x, 3, 0, 0);
        everywhere("all who were told, at 3", x, 2, 1, 2002);
        Checks.delivers(x, 1, Villagepost.MOVE);
        everywhere("at 1", x, 2, 1, 2202);
        everywhere("at 1", x, 3, 1, 2202);
        Checks.delivers(x, 2, Villagepost.MOVE);
        everywhere("everywhere", x, 2, 1, 2222);
        everywhere("everywhere", x, 2, 0, 0);
        everywhere("who follows another one stays", x, 4, 2, 22);
        everywhere("who moved follows as before", x, 0, 2, 2020);
        Checks.due("follows at 0", x.ofServer(0, 4), 3);
    }

    private static void moveUnlessBlocked() {
        Checks.holds("Follows; promise 8", "unless a block between it and the new one is known there");
        Villagepost x = Checks.village(0, 1, 2, 3, 0);
        Checks.makeFollower(x, 2, 0);
        Checks.makeFollower(x, 3, 0);
        Checks.makeFollower(x, 4, 0);
        x.alias(1, 0);
        Checks.settle(x);
        x.block(2, 1, true);
        x.block(1, 3, true);
        x.block(4, 0, true);
        x.block(4, 0, false);
        Checks.due("who follows no more is not told", x.move(0, 1), 2);
        between("no block is known at 0", x, 0, 2, 1, 2);
        between("no block is known at 0", x, 0, 3, 1, 2);
        Checks.delivers(x, 2, Villagepost.MOVE);
        between("one's own block", x, 2, 2, 1, 4);
        between("another one's block is not known at 2", x, 2, 3, 1, 2);
        between("the old one is not followed in any case", x, 2, 2, 0, 0);
        Checks.delivers(x, 1, Villagepost.BLOCK, Villagepost.MOVE);
        between("the block of 2", x, 1, 2, 1, 4);
        between("the new one's block", x, 1, 3, 1, 0);
        Checks.due("no follow there", x.ofServer(1, 4), 0);
        Checks.delivers(x, 3, Villagepost.BLOCK, Villagepost.MOVE);
        between("the new one's block", x, 3, 3, 1, 0);
        between("the old one is not followed in any case", x, 3, 3, 0, 0);
        between("the block of 2 is not known at 3", x, 3, 2, 1, 2);
    }

    private static void moveUnlessItIsTheNewOne() {
        Checks.holds("Follows; promise 8", "or it is the new one, follows the new one");
        Villagepost x = Checks.village(0, 1, 2);
        Checks.makeFollower(x, 1, 0);
        Checks.makeFollower(x, 2, 0);
        x.alias(1, 0);
        Checks.settle(x);
        Checks.due("told", x.move(0, 1), 2);
        Checks.settle(x);
        everywhere("nobody follows themselves", x, 1, 1, 0);
        everywhere("the old one is not followed", x, 1, 0, 0);
        everywhere("the other one follows", x, 2, 1, 2220);
        Checks.due("one follow at each", x.ofServer(0, 4) * 100 + x.ofServer(1, 4) * 10 + x.ofServer(2, 4), 111);
    }

    private static void moveEndsTheAsk() {
        Checks.holds("Follows; promise 8", "follows the new one, and asks that one no more");
        Villagepost x = Checks.village(0, 1, 2, 2);
        Checks.makeFollower(x, 2, 0);
        x.follow(2, 1);
        x.follow(2, 3);
        x.follow(3, 1);
        x.follow(1, 2);
        x.alias(1, 0);
        Checks.settle(x);
        x.move(0, 1);
        Checks.delivers(x, 1, Villagepost.MOVE);
        Checks.delivers(x, 2, Villagepost.MOVE);
        everywhere("follows, and asks no more", x, 2, 1, 2220);
        everywhere("asks another one still", x, 2, 3, 10);
        everywhere("who was not told asks still", x, 3, 1, 110);
        everywhere("not the other way", x, 1, 2, 110);
        Checks.due("asks at 1", x.ofServer(1, 5), 2);
        Checks.due("asks at 2", x.ofServer(2, 5), 3);

        // An ask of the old one is another ask: it stays.
        Villagepost y = Checks.village(0, 1, 2);
        Checks.makeFollower(y, 2, 0);
        y.alias(1, 0);
        Checks.settle(y);
        y.leave(2, 0);
        y.follow(2, 0);
        y.move(0, 1);
        Checks.delivers(y, 2, Villagepost.MOVE);
        everywhere("asks the old one still", y, 2, 0, 10);
        everywhere("and follows the new one", y, 2, 1, 2020);
    }

    private static void moveGoesToServers() {
        Checks.holds("Follows; promise 8", "it goes to the servers of all of these, and of the new one");
        int[][] followers = {{}, {2}, {3}, {4}, {2, 3}, {3, 5}, {2, 3, 4, 5}, {5}};
        int[] want = {100, 100, 110, 101, 110, 110, 111, 110};
        for (int i = 0; i < followers.length; i++) {
            Villagepost x = Checks.village(0, 1, 0, 2, 3, 2);
            for (int person : followers[i]) {
                Checks.makeFollower(x, person, 0);
            }
            x.alias(1, 0);
            Checks.settle(x);
            Checks.due("told, " + i, x.move(0, 1), followers[i].length);
            Checks.due("each server once, " + i, Checks.waiting(x), want[i]);
        }
        Villagepost y = Checks.village(0, 0, 3);
        y.alias(1, 0);
        Checks.due("told", y.move(0, 1), 0);
        Checks.due("to nobody within a server", Checks.waiting(y), 0);
        Checks.makeFollower(y, 2, 1);
        y.alias(0, 1);
        Checks.due("told", y.move(1, 0), 1);
        Checks.due("not to the own server", Checks.waiting(y), 1);
    }

    private static void moveOfAllTen() {
        Checks.holds("Follows; promise 8", "tells all who follow then, as is known there");
        Villagepost x = Checks.village(0, 1, 2, 3, 0, 1, 2, 3, 0, 1);
        for (int person = 1; person < 10; person++) {
            x.follow(person, 0);
        }
        Checks.settle(x);
        for (int person = 1; person < 10; person++) {
            x.answer(0, person, true);
        }
        x.alias(9, 0);
        Checks.settle(x);
        Checks.due("all are told", x.move(0, 9), 9);
        Checks.due("each server once", Checks.waiting(x), 111);
        Checks.settle(x);
        for (int person = 1; person < 9; person++) {
            everywhere("follows", x, person, 9, 2222);
            everywhere("follows no more", x, person, 0, 0);
        }
        everywhere("the new one", x, 9, 9, 0);
        everywhere("the new one", x, 9, 0, 0);
    }
}
