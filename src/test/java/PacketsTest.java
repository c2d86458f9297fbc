/** Promises 12 and 13: deliver and repeat. */
public final class PacketsTest {
    public static void main(String[] args) {
        order();
        everyKind();
        repeat();
        wrong();
        Checks.finish("PacketsTest");
    }

    private static void order() {
        Villagepost x = Checks.village(0, 1, 2);
        x.follow(0, 1);
        x.block(2, 1, true);
        x.post(0, 0, 2, -1);
        Checks.due("12: wait", x.ofServer(1, 0), 3);
        Checks.due("12: first sent, first delivered", x.deliver(1), Villagepost.FOLLOW);
        Checks.due("12: from another server", x.deliver(1), Villagepost.BLOCK);
        Checks.due("12: last", x.deliver(1), Villagepost.POST);
        Checks.due("12: none waits", x.deliver(1), Villagepost.NONE);
        Checks.due("12: none waits", x.ofServer(1, 0), 0);
        Checks.due("12: other servers have their own", x.deliver(0), Villagepost.NONE);
        x.leave(0, 1);
        Checks.due("12: a later one", x.deliver(1), Villagepost.LEAVE);
    }

    private static void everyKind() {
        Villagepost x = Checks.village(0, 1);
        x.follow(0, 1);
        x.post(0, 0, 2, -1);
        x.boost(0, 0);
        x.alias(0, 1);
        Checks.due("12: to 1", x.deliver(1), 0);
        Checks.due("12: to 1", x.deliver(1), 8);
        // The author's own boost goes to followers' servers, and there are none yet.
        Checks.due("12: to 1", x.deliver(1), 6);
        x.answer(1, 0, true);
        x.boost(1, 0);
        x.move(1, 0);
        x.block(1, 0, true);
        x.block(1, 0, false);
        x.follow(1, 0);
        int[] kinds = {1, 10, 7, 4, 5, 0, -1};
        for (int kind : kinds) {
            Checks.due("12: to 0", x.deliver(0), kind);
        }
        x.answer(0, 1, false);
        x.follow(0, 1);
        x.leave(0, 1);
        x.delete(0);
        int[] more = {2, 0, 3, 9, -1};
        for (int kind : more) {
            Checks.due("12: to 1", x.deliver(1), kind);
        }
    }

    private static void repeat() {
        Villagepost x = Checks.village(0, 1);
        x.follow(0, 1);
        Checks.due("13: none was delivered", x.repeat(1), Villagepost.NONE);
        Checks.due("13: it does not deliver", x.between(1, 0, 1), 0);
        x.leave(0, 1);
        x.deliver(1);
        Checks.due("13: the last one", x.repeat(1), Villagepost.FOLLOW);
        Checks.due("13: not done again", x.ofServer(1, 1), 1);
        Checks.due("13: what waits waits still", x.ofServer(1, 0), 1);
        x.answer(1, 0, false);
        Checks.due("13: again", x.repeat(1), Villagepost.FOLLOW);
        Checks.due("13: an ask that was refused is not asked again", x.between(1, 0, 1), 0);
        x.deliver(1);
        Checks.due("13: the last one now", x.repeat(1), Villagepost.LEAVE);
        x.deliver(1);
        Checks.due("13: an empty delivery does not count", x.repeat(1), Villagepost.LEAVE);
        Checks.due("13: other servers have their own", x.repeat(2), Villagepost.NONE);
        x.deliver(0);
        Checks.due("13: other servers have their own", x.repeat(0), Villagepost.REFUSE);
    }

    private static void wrong() {
        Villagepost x = Checks.village(0, 1);
        Checks.refused("12: server -1", Checks.BOUNDS, () -> x.deliver(-1));
        Checks.refused("12: server 4", Checks.BOUNDS, () -> x.deliver(4));
        Checks.refused("13: server -1", Checks.BOUNDS, () -> x.repeat(-1));
        Checks.refused("13: server 4", Checks.BOUNDS, () -> x.repeat(4));
    }
}
