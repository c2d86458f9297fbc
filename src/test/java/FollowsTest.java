/** Promises 3 to 6: follow, answer, leave and block. */
public final class FollowsTest {
    public static void main(String[] args) {
        follow();
        followWrong();
        followMeetsFollow();
        answer();
        answerWrong();
        answerComesLate();
        leave();
        leaveWrong();
        block();
        blockHoldsOff();
        blockIsOnesOwn();
        blockWrong();
        Checks.finish("FollowsTest");
    }

    private static void follow() {
        Villagepost x = Checks.village(0, 1, 1);
        x.follow(0, 1);
        Checks.due("3: asks at home at once", x.between(0, 0, 1), 1);
        Checks.due("3: not the other way", x.between(0, 1, 0), 0);
        Checks.due("3: not known there yet", x.between(1, 0, 1), 0);
        Checks.due("3: a packet to server 1 alone", Checks.waiting(x), 100);
        Checks.due("3: packet", x.deliver(1), Villagepost.FOLLOW);
        Checks.due("3: known there", x.between(1, 0, 1), 1);
        Checks.due("3: asks are counted", x.ofServer(1, 5), 1);
        x.follow(1, 2);
        Checks.due("3: no packet within a server", Checks.waiting(x), 0);
        Checks.due("3: known at both", x.between(1, 1, 2), 1);
        x.follow(1, 0);
        Checks.due("3: both ways are two asks", x.ofServer(1, 5), 3);
    }

    private static void followWrong() {
        Villagepost x = Checks.village(0, 1);
        Checks.refused("3: no such person", Checks.BOUNDS, () -> x.follow(2, 0));
        Checks.refused("3: no such other", Checks.BOUNDS, () -> x.follow(0, 2));
        Checks.refused("3: person -1", Checks.BOUNDS, () -> x.follow(-1, 0));
        Checks.refused("3: other -1", Checks.BOUNDS, () -> x.follow(0, -1));
        Checks.refused("3: both are one who is not there", Checks.BOUNDS, () -> x.follow(2, 2));
        Checks.refused("3: both are one", Checks.ARGUMENT, () -> x.follow(1, 1));
        x.follow(0, 1);
        Checks.refused("3: asks already", Checks.STATE, () -> x.follow(0, 1));
        Checks.refused("3: both are one, before a state", Checks.ARGUMENT, () -> x.follow(0, 0));
        Checks.settle(x);
        x.answer(1, 0, true);
        Checks.settle(x);
        Checks.refused("3: follows already", Checks.STATE, () -> x.follow(0, 1));
        Checks.due("3: refused calls do nothing", x.ofServer(0, 1), 2);
        x.block(1, 0, true);
        Checks.refused("3: own block", Checks.STATE, () -> x.follow(1, 0));
        x.leave(0, 1);
        x.follow(0, 1);
        Checks.due("3: a block that is not known at home does not hinder", x.between(0, 0, 1), 1);
        Checks.settle(x);
        Checks.refused("3: the other one's block", Checks.STATE, () -> x.follow(0, 1));
    }

    private static void followMeetsFollow() {
        // Server 1 knows of the move that makes 2 a follower of 1 before it hears that 2 asked 1.
        Villagepost x = Checks.village(0, 1, 2);
        Checks.makeFollower(x, 2, 0);
        x.alias(1, 0);
        Checks.settle(x);
        x.move(0, 1);
        x.follow(2, 1);
        Checks.due("3: asks at home", x.between(2, 2, 1), 1);
        Checks.due("3: the move comes first", x.deliver(1), Villagepost.MOVE);
        Checks.due("3: then the ask", x.deliver(1), Villagepost.FOLLOW);
        Checks.due("3: no ask of one who follows", x.between(1, 2, 1), 2);
        Checks.refused("3: no ask to answer", Checks.STATE, () -> x.answer(1, 2, true));
        Checks.due("3: the move is done at home too", x.deliver(2), Villagepost.MOVE);
        Checks.due("3: who follows asks no more", x.between(2, 2, 1), 2);
    }

    private static void answer() {
        Villagepost x = Checks.village(0, 1, 2);
        x.follow(1, 0);
        x.follow(2, 0);
        Checks.refused("4: the ask is not known yet", Checks.STATE, () -> x.answer(0, 1, true));
        Checks.settle(x);
        x.answer(0, 1, true);
        Checks.due("4: follows at home at once", x.between(0, 1, 0), 2);
        Checks.due("4: the ask is used up", x.ofServer(0, 5), 1);
        Checks.due("4: the follow is counted", x.ofServer(0, 4), 1);
        Checks.due("4: to the server of who asked", Checks.waiting(x), 100);
        Checks.due("4: asks still at the server of who asked", x.between(1, 1, 0), 1);
        Checks.due("4: packet", x.deliver(1), Villagepost.ACCEPT);
        Checks.due("4: follows there too", x.between(1, 1, 0), 2);
        x.answer(0, 2, false);
        Checks.due("4: refused at home", x.between(0, 2, 0), 0);
        Checks.due("4: to the server of who asked", Checks.waiting(x), 10);
        Checks.due("4: packet", x.deliver(2), Villagepost.REFUSE);
        Checks.due("4: refused there too", x.between(2, 2, 0), 0);
        x.follow(2, 0);
        Checks.due("4: one can ask again", x.between(2, 2, 0), 1);
    }

    private static void answerWrong() {
        Villagepost x = Checks.village(0, 1);
        Checks.refused("4: no such person", Checks.BOUNDS, () -> x.answer(2, 0, true));
        Checks.refused("4: no such other", Checks.BOUNDS, () -> x.answer(0, 2, false));
        Checks.refused("4: person -1", Checks.BOUNDS, () -> x.answer(-1, 0, true));
        Checks.refused("4: other -1", Checks.BOUNDS, () -> x.answer(0, -1, false));
        Checks.refused("4: oneself", Checks.STATE, () -> x.answer(0, 0, true));
        Checks.refused("4: nobody asks", Checks.STATE, () -> x.answer(0, 1, false));
        x.follow(0, 1);
        Checks.settle(x);
        Checks.refused("4: the one asked, not the other", Checks.STATE, () -> x.answer(0, 1, true));
        x.answer(1, 0, true);
        Checks.refused("4: answered already", Checks.STATE, () -> x.answer(1, 0, true));
        Checks.refused("4: a follower cannot be refused", Checks.STATE, () -> x.answer(1, 0, false));
        Checks.due("4: refused calls do nothing", x.ofServer(1, 1), 2);
    }

    private static void answerComesLate() {
        Villagepost x = Checks.village(0, 1);
        x.follow(0, 1);
        Checks.settle(x);
        x.leave(0, 1);
        x.answer(1, 0, true);
        Checks.due("4: not known yet that the ask is gone", x.between(1, 0, 1), 2);
        Checks.due("4: packet", x.deliver(0), Villagepost.ACCEPT);
        Checks.due("4: no follower without an ask", x.between(0, 0, 1), 0);
        Checks.due("4: the act is done all the same", x.ofServer(0, 1), 3);
        Checks.due("4: packet", x.deliver(1), Villagepost.LEAVE);
        Checks.due("4: the follow is taken away there", x.between(1, 0, 1), 0);
    }

    private static void leave() {
        Villagepost x = Checks.village(0, 1);
        x.follow(0, 1);
        x.leave(0, 1);
        Checks.due("5: the ask is gone at home", x.between(0, 0, 1), 0);
        Checks.due("5: two packets", Checks.waiting(x), 200);
        Checks.due("5: in the order sent", x.deliver(1), Villagepost.FOLLOW);
        Checks.due("5: asked there still", x.between(1, 0, 1), 1);
        Checks.due("5: packet", x.deliver(1), Villagepost.LEAVE);
        Checks.due("5: gone there", x.between(1, 0, 1), 0);
        Checks.makeFollower(x, 0, 1);
        Checks.makeFollower(x, 1, 0);
        x.leave(0, 1);
        Checks.due("5: the follow is gone at home", x.between(0, 0, 1), 0);
        Checks.due("5: not the other way", x.between(0, 1, 0), 2);
        Checks.settle(x);
        Checks.due("5: gone there", x.between(1, 0, 1), 0);
        Checks.due("5: not the other way there", x.between(1, 1, 0), 2);
    }

    private static void leaveWrong() {
        Villagepost x = Checks.village(0, 1);
        Checks.refused("5: no such person", Checks.BOUNDS, () -> x.leave(2, 0));
        Checks.refused("5: no such other", Checks.BOUNDS, () -> x.leave(0, 2));
        Checks.refused("5: person -1", Checks.BOUNDS, () -> x.leave(-1, 0));
        Checks.refused("5: other -1", Checks.BOUNDS, () -> x.leave(0, -1));
        Checks.refused("5: oneself", Checks.STATE, () -> x.leave(0, 0));
        Checks.refused("5: nothing to leave", Checks.STATE, () -> x.leave(0, 1));
        Checks.makeFollower(x, 0, 1);
        Checks.refused("5: the other one follows, not the one", Checks.STATE, () -> x.leave(1, 0));
        x.leave(0, 1);
        Checks.refused("5: left already", Checks.STATE, () -> x.leave(0, 1));
    }

    private static void block() {
        Villagepost x = Checks.village(0, 1, 2);
        Checks.makeFollower(x, 0, 1);
        x.follow(1, 0);
        Checks.settle(x);
        Checks.makeFollower(x, 2, 0);
        x.block(0, 1, true);
        Checks.due("6: blocks, and follows no more", x.between(0, 0, 1), 4);
        Checks.due("6: nor does the other one ask", x.between(0, 1, 0), 0);
        Checks.due("6: others follow still", x.between(0, 2, 0), 2);
        Checks.due("6: to the server of the other one", Checks.waiting(x), 100);
        Checks.due("6: not known there yet", x.between(1, 0, 1), 2);
        Checks.due("6: not known there yet", x.between(1, 1, 0), 1);
        Checks.due("6: packet", x.deliver(1), Villagepost.BLOCK);
        Checks.due("6: blocked there", x.between(1, 0, 1), 4);
        Checks.due("6: the ask is gone there", x.between(1, 1, 0), 0);
        x.block(0, 1, false);
        Checks.due("6: taken away at home", x.between(0, 0, 1), 0);
        Checks.due("6: packet", x.deliver(1), Villagepost.UNBLOCK);
        Checks.due("6: taken away there", x.between(1, 0, 1), 0);
        x.follow(1, 0);
        Checks.due("6: one can ask again", x.between(1, 1, 0), 1);
    }

    private static void blockHoldsOff() {
        Villagepost x = Checks.village(0, 1);
        x.follow(1, 0);
        x.block(0, 1, true);
        Checks.due("6: the ask comes to a block", x.deliver(0), Villagepost.FOLLOW);
        Checks.due("6: it is not done", x.between(0, 1, 0), 0);
        Checks.due("6: it counts as done", x.ofServer(0, 1), 2);
        Checks.due("6: repeated after the block is gone", x.between(0, 0, 1), 4);
        x.block(0, 1, false);
        Checks.due("6: packet", x.repeat(0), Villagepost.FOLLOW);
        Checks.due("6: it is not done late", x.between(0, 1, 0), 0);

        // The ask comes to the block of who asked themselves.
        Villagepost y = Checks.village(0, 1);
        y.block(1, 0, true);
        y.block(1, 0, false);
        y.follow(1, 0);
        Checks.due("6: packet", y.deliver(0), Villagepost.BLOCK);
        y.repeat(0);
        Checks.due("6: known there", y.between(0, 1, 0), 4);
        y.deliver(0);
        y.deliver(0);
        Checks.due("6: packets in their order leave the ask", y.between(0, 1, 0), 1);

        // An accept that comes after a block makes no follower.
        Villagepost z = Checks.village(0, 1);
        z.follow(1, 0);
        Checks.settle(z);
        z.answer(0, 1, true);
        z.block(1, 0, true);
        Checks.due("6: packet", z.deliver(1), Villagepost.ACCEPT);
        Checks.due("6: no follow past a block", z.between(1, 1, 0), 4);
        Checks.due("6: packet", z.deliver(0), Villagepost.BLOCK);
        Checks.due("6: the follow is taken away there", z.between(0, 1, 0), 4);
    }

    private static void blockIsOnesOwn() {
        Villagepost x = Checks.village(0, 1);
        x.block(0, 1, true);
        Checks.settle(x);
        Checks.refused("6: not one's own block", Checks.STATE, () -> x.block(1, 0, false));
        x.block(1, 0, true);
        Checks.settle(x);
        x.block(0, 1, false);
        Checks.due("6: the other one's block stays", x.between(0, 1, 0), 4);
        Checks.refused("6: still a block between them", Checks.STATE, () -> x.follow(0, 1));
        x.block(1, 0, false);
        Checks.settle(x);
        x.follow(0, 1);
        Checks.due("6: no block any more", x.between(0, 0, 1), 1);
    }

    private static void blockWrong() {
        Villagepost x = Checks.village(0, 1);
        Checks.refused("6: no such person", Checks.BOUNDS, () -> x.block(2, 0, true));
        Checks.refused("6: no such other", Checks.BOUNDS, () -> x.block(0, 2, false));
        Checks.refused("6: person -1", Checks.BOUNDS, () -> x.block(-1, 0, true));
        Checks.refused("6: other -1", Checks.BOUNDS, () -> x.block(0, -1, true));
        Checks.refused("6: both are one who is not there", Checks.BOUNDS, () -> x.block(2, 2, true));
        Checks.refused("6: both are one", Checks.ARGUMENT, () -> x.block(0, 0, true));
        Checks.refused("6: both are one, before a state", Checks.ARGUMENT, () -> x.block(0, 0, false));
        Checks.refused("6: not blocked", Checks.STATE, () -> x.block(0, 1, false));
        x.block(0, 1, true);
        Checks.refused("6: blocked already", Checks.STATE, () -> x.block(0, 1, true));
        Checks.due("6: refused calls do nothing", x.ofServer(0, 1), 1);
    }
}
