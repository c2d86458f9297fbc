/** Promises 7 and 8: alias and move. */
public final class MovesTest {
    public static void main(String[] args) {
        alias();
        aliasInPlace();
        aliasWrong();
        move();
        moveWithin();
        moveTellsEach();
        moveMeetsBlock();
        moveToFollower();
        moveEndsAsk();
        moveAfterLeave();
        moveWrong();
        Checks.finish("MovesTest");
    }

    private static void alias() {
        Villagepost x = Checks.village(0, 1, 2);
        x.alias(1, 0);
        Checks.due("7: to the server of that one", Checks.waiting(x), 1000);
        Checks.refused("7: not known there yet", Checks.STATE, () -> x.move(0, 1));
        Checks.due("7: packet", x.deliver(0), Villagepost.ALIAS);
        Checks.due("7: known there", x.move(0, 1), 0);
        x.alias(1, 0);
        Checks.due("7: the same again is an act again", x.ofServer(1, 1), 2);
        Checks.due("7: and a packet again", x.ofServer(0, 0), 1);
    }

    private static void aliasInPlace() {
        Villagepost x = Checks.village(0, 1, 0);
        x.alias(1, 0);
        x.alias(1, 2);
        x.deliver(0);
        Checks.due("7: the first one", x.move(0, 1), 0);
        x.deliver(0);
        Checks.refused("7: in place of the first one", Checks.STATE, () -> x.move(0, 1));
        Checks.due("7: the second one", x.move(2, 1), 0);

        // The new alias goes to the server of the new one alone: the old one's server goes by what it knows.
        Villagepost y = Checks.village(0, 1, 2);
        y.alias(1, 0);
        Checks.settle(y);
        y.alias(1, 2);
        Checks.due("7: to the server of the new one alone", Checks.waiting(y), 10);
        Checks.settle(y);
        Checks.due("7: the old one is known there still", y.move(0, 1), 0);
    }

    private static void aliasWrong() {
        Villagepost x = Checks.village(0, 1);
        Checks.refused("7: no such person", Checks.BOUNDS, () -> x.alias(2, 0));
        Checks.refused("7: no such other", Checks.BOUNDS, () -> x.alias(0, 2));
        Checks.refused("7: person -1", Checks.BOUNDS, () -> x.alias(-1, 0));
        Checks.refused("7: other -1", Checks.BOUNDS, () -> x.alias(0, -1));
        Checks.refused("7: both are one who is not there", Checks.BOUNDS, () -> x.alias(2, 2));
        Checks.refused("7: both are one", Checks.ARGUMENT, () -> x.alias(1, 1));
        Checks.due("7: refused calls do nothing", x.ofServer(1, 1), 0);
    }

    private static void move() {
        // 0 moves to 1; 2 and 3 follow 0, 4 asks 0.
        Villagepost x = Checks.village(0, 1, 2, 3, 3);
        Checks.makeFollower(x, 2, 0);
        Checks.makeFollower(x, 3, 0);
        x.follow(4, 0);
        x.alias(1, 0);
        Checks.settle(x);
        Checks.due("8: told", x.move(0, 1), 2);
        Checks.due("8: to the servers of all these and of the new one", Checks.waiting(x), 111);
        Checks.due("8: none follows the old one", x.between(0, 2, 0), 0);
        Checks.due("8: all follow the new one", x.between(0, 2, 1), 2);
        Checks.due("8: and the other", x.between(0, 3, 1), 2);
        Checks.due("8: who asks is not told", x.between(0, 4, 1), 0);
        Checks.due("8: who asks asks still", x.between(0, 4, 0), 1);
        Checks.due("8: not known there yet", x.between(2, 2, 0), 2);
        Checks.due("8: packet", x.deliver(2), Villagepost.MOVE);
        Checks.due("8: known there", x.between(2, 2, 0), 0);
        Checks.due("8: known there", x.between(2, 2, 1), 2);
        Checks.due("8: all of them are known there", x.between(2, 3, 1), 2);
        Checks.due("8: packet", x.deliver(1), Villagepost.MOVE);
        Checks.due("8: known to the new one", x.between(1, 2, 1), 2);
        Checks.due("8: nobody is left to tell", x.move(0, 1), 0);
        Checks.due("8: the server of the new one all the same", x.ofServer(1, 0), 1);
    }

    private static void moveWithin() {
        Villagepost x = Checks.village(0, 0, 0, 1);
        Checks.makeFollower(x, 2, 0);
        x.alias(1, 0);
        Checks.due("8: within a server", x.move(0, 1), 1);
        Checks.due("8: no packet", Checks.waiting(x), 0);
        Checks.due("8: follows the new one", x.between(0, 2, 1), 2);
        x.follow(3, 1);
        Checks.settle(x);
        x.answer(1, 3, true);
        x.alias(0, 1);
        Checks.due("8: and back", x.move(1, 0), 2);
        Checks.due("8: each server once", Checks.waiting(x), 200);
        Checks.settle(x);
        Checks.due("8: follows the first one", x.between(1, 3, 0), 2);
        Checks.due("8: not the second one", x.between(1, 3, 1), 0);
    }

    private static void moveTellsEach() {
        Villagepost x = Checks.village(0, 1, 0, 2, 2, 1);
        for (int person = 2; person < 6; person++) {
            Checks.makeFollower(x, person, 0);
        }
        x.alias(1, 0);
        Checks.settle(x);
        Checks.due("8: each is told, at whatever server", x.move(0, 1), 4);
        Checks.due("8: each other server gets one packet", Checks.waiting(x), 110);
    }

    private static void moveMeetsBlock() {
        Villagepost x = Checks.village(0, 1, 2, 3);
        Checks.makeFollower(x, 2, 0);
        Checks.makeFollower(x, 3, 0);
        x.alias(1, 0);
        Checks.settle(x);
        x.block(2, 1, true);
        x.block(1, 3, true);
        Checks.due("8: told", x.move(0, 1), 2);
        Checks.due("8: no block is known at the old one's", x.between(0, 2, 1), 2);
        Checks.settle(x);
        Checks.due("8: own block at home", x.between(2, 2, 1), 4);
        Checks.due("8: the old one is not followed either", x.between(2, 2, 0), 0);
        Checks.due("8: known to the new one", x.between(1, 2, 1), 4);
        Checks.due("8: the new one's block", x.between(1, 3, 1), 0);
        Checks.due("8: the new one's block", x.between(1, 1, 3), 4);
        Checks.due("8: known to who is blocked", x.between(3, 3, 1), 0);
        Checks.due("8: the old one is not followed either", x.between(3, 3, 0), 0);
    }

    private static void moveToFollower() {
        Villagepost x = Checks.village(0, 1);
        Checks.makeFollower(x, 1, 0);
        x.alias(1, 0);
        Checks.settle(x);
        Checks.due("8: the new one is told too", x.move(0, 1), 1);
        Checks.due("8: nobody follows themselves", x.between(0, 1, 1), 0);
        Checks.due("8: nor the old one", x.between(0, 1, 0), 0);
        Checks.due("8: no follow is left", x.ofServer(0, 4), 0);
        Checks.settle(x);
        Checks.due("8: nor there", x.ofServer(1, 4), 0);
    }

    private static void moveEndsAsk() {
        Villagepost x = Checks.village(0, 1, 2);
        Checks.makeFollower(x, 2, 0);
        x.follow(2, 1);
        x.alias(1, 0);
        Checks.settle(x);
        x.move(0, 1);
        Checks.settle(x);
        Checks.due("8: follows, and asks no more", x.between(2, 2, 1), 2);
        Checks.due("8: the same at the new one's", x.between(1, 2, 1), 2);
        Checks.due("8: no ask is left", x.ofServer(1, 5), 0);
        Checks.refused("8: no ask to answer", Checks.STATE, () -> x.answer(1, 2, false));
    }

    private static void moveAfterLeave() {
        Villagepost x = Checks.village(0, 1, 2);
        Checks.makeFollower(x, 2, 0);
        x.alias(1, 0);
        Checks.settle(x);
        x.leave(2, 0);
        Checks.due("8: who left is told, as far as is known", x.move(0, 1), 1);
        Checks.settle(x);
        Checks.due("8: who was told follows the new one", x.between(2, 2, 1), 2);
        Checks.due("8: at the old one's too", x.between(0, 2, 1), 2);
    }

    private static void moveWrong() {
        Villagepost x = Checks.village(0, 1);
        x.alias(1, 0);
        Checks.settle(x);
        Checks.refused("8: no such person", Checks.BOUNDS, () -> x.move(2, 0));
        Checks.refused("8: no such other", Checks.BOUNDS, () -> x.move(0, 2));
        Checks.refused("8: person -1", Checks.BOUNDS, () -> x.move(-1, 0));
        Checks.refused("8: other -1", Checks.BOUNDS, () -> x.move(0, -1));
        Checks.refused("8: both are one", Checks.STATE, () -> x.move(0, 0));
        Checks.refused("8: the alias is the other way", Checks.STATE, () -> x.move(1, 0));
        Checks.due("8: refused calls do nothing", Checks.waiting(x), 0);
        Checks.due("8: with the alias", x.move(0, 1), 0);
    }
}
