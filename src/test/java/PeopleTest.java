/** Promises 1 and 2: a new object, and people. */
public final class PeopleTest {
    public static void main(String[] args) {
        newObject();
        people();
        Checks.finish("PeopleTest");
    }

    private static void newObject() {
        Villagepost x = new Villagepost();
        for (int server = 0; server < 4; server++) {
            Checks.due("1: deliver", x.deliver(server), Villagepost.NONE);
            Checks.due("1: repeat", x.repeat(server), Villagepost.NONE);
            for (int what = 0; what < 6; what++) {
                Checks.due("1: number " + what, x.ofServer(server, what), 0);
            }
        }
        Checks.refused("1: nobody is there", Checks.BOUNDS, () -> x.home(0, 0));
        Checks.refused("1: no post is there", Checks.BOUNDS, () -> x.delete(0));
    }

    private static void people() {
        Villagepost x = new Villagepost();
        Checks.refused("2: server -1", Checks.BOUNDS, () -> x.person(-1));
        Checks.refused("2: server 4", Checks.BOUNDS, () -> x.person(4));
        Checks.refused("2: the least server", Checks.BOUNDS, () -> x.person(Integer.MIN_VALUE));
        for (int i = 0; i < 10; i++) {
            Checks.refused("2: person " + i + " is not there yet", Checks.BOUNDS, () -> x.home(x.person(3) + 1, 0));
            Checks.due("2: person " + i + " is there", x.home(i, 0), Villagepost.NONE);
        }
        Checks.refused("2: an eleventh", Checks.STATE, () -> x.person(0));
        Checks.refused("2: an eleventh at no server", Checks.BOUNDS, () -> x.person(4));
        Checks.refused("2: nobody came with what was refused", Checks.BOUNDS, () -> x.home(10, 0));

        Villagepost y = new Villagepost();
        for (int i = 0; i < 10; i++) {
            Checks.due("2: number", y.person(i % 4), i);
        }
        Checks.due("2: no act", y.ofServer(0, 1), 0);
        y.follow(0, 3);
        Checks.due("2: 0 is at server 0, 3 at server 3", Checks.waiting(y), 1);
        y.follow(9, 6);
        Checks.due("2: 9 is at server 1, 6 at server 2", Checks.waiting(y), 11);
    }
}
