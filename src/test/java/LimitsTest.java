/** Empty and full: a new object, 10 people, 50 posts, 512 calls. */
public final class LimitsTest {
    private static final int NONE = Villagepost.NONE;

    public static void main(String[] args) {
        newObject();
        numbers();
        tenPeople();
        lastPerson();
        eleventhPerson();
        namedByTen();
        fiftyPosts();
        fiftyFirstPost();
        eachPostIsItsOwn();
        eachPersonIsTheirOwn();
        calls();
        lastCalls();
        laterCalls();
        Checks.finish("LimitsTest");
    }

    private static void newObject() {
        Checks.holds("Promise 1", "No people, no packets.");
        for (int server = 0; server < 4; server++) {
            Villagepost x = new Villagepost();
            Checks.numbers("new", x, server, 0, 0, 0, 0, 0, 0);
            Checks.due("repeat", x.repeat(server), NONE);
            Checks.due("deliver", x.deliver(server), NONE);
            Checks.due("repeat after an empty deliver", x.repeat(server), NONE);
            int s = server;
            Checks.refused("between", Checks.BOUNDS, () -> x.between(s, 0, 0));
            Checks.due("the first person", x.person(server), 0);
        }
        Twins empty = new Twins(0, 0, x -> { });
        empty.refused("follow", Checks.BOUNDS, x -> x.follow(0, 1));
        empty.refused("answer", Checks.BOUNDS, x -> x.answer(0, 1, true));
        empty.refused("leave", Checks.BOUNDS, x -> x.leave(0, 1));
        empty.refused("block", Checks.BOUNDS, x -> x.block(0, 1, true));
        empty.refused("alias", Checks.BOUNDS, x -> x.alias(0, 1));
        empty.refused("move", Checks.BOUNDS, x -> x.move(0, 1));
        empty.refused("post", Checks.BOUNDS, x -> x.post(0, 0, 0, NONE));
        empty.refused("delete", Checks.BOUNDS, x -> x.delete(0));
        empty.refused("boost", Checks.BOUNDS, x -> x.boost(0, 0));
        empty.refused("sees", Checks.BOUNDS, x -> x.sees(0, 0));
        empty.refused("seesAnew", Checks.BOUNDS, x -> x.seesAnew(0, 0));
        empty.refused("home", Checks.BOUNDS, x -> x.home(0, 0));
        empty.refused("person", Checks.BOUNDS, x -> x.person(4));
        empty.refused("ofServer", Checks.ARGUMENT, x -> x.ofServer(0, 6));
    }

    private static void numbers() {
        Checks.holds("Promise 2", "Returns their number.");
        Villagepost x = new Villagepost();
        Checks.due("the first", x.person(3), 0);
        Checks.due("the second, at another server", x.person(0), 1);
        Checks.refused("nobody", Checks.BOUNDS, () -> x.person(4));
        Checks.due("the third, after a refused call", x.person(3), 2);
        Checks.holds("Promise 9", "Returns its number.");
        Checks.due("the first", x.post(2, Villagepost.DIRECT, 0, NONE), 0);
        Checks.due("the second, by another one", x.post(0, Villagepost.PUBLIC, 0, NONE), 1);
        Checks.refused("no post", Checks.ARGUMENT, () -> x.post(0, 3, 0, NONE));
        x.delete(1);
        Checks.due("the third, after a refused call and a deleted post", x.post(1, Villagepost.PUBLIC, 0, NONE), 2);
    }

    /** Ten people, person i at server i % 4. */
    private static void full(Villagepost x) {
        for (int i = 0; i < 10; i++) {
            x.person(i % 4);
        }
    }

    private static Villagepost ofTen() {
        Villagepost x = new Villagepost();
        full(x);
        return x;
    }

    private static void tenPeople() {
        Checks.holds("Terms; promise 2", "People are numbered from 0, up to 10, each at home at a server.");
        Villagepost x = new Villagepost();
        for (int i = 0; i < 10; i++) {
            int next = i;
            Checks.refused("not there yet", Checks.BOUNDS, () -> x.home(next, 0));
            Checks.due("number", x.person(i % 4), i);
            Checks.due("at home", x.home(i, 0), NONE);
        }
        // A first act tells where its author is at home.
        for (int i = 0; i < 10; i++) {
            int before = x.ofServer(i % 4, 1);
            x.post(i, Villagepost.DIRECT, 0, NONE);
            Checks.due("acts at home of " + i, x.ofServer(i % 4, 1), before + 1);
        }
        Villagepost y = new Villagepost();
        for (int i = 0; i < 10; i++) {
            Checks.due("all at one server", y.person(3), i);
        }
        y.post(0, Villagepost.DIRECT, 1023, NONE);
        Checks.due("a packet for nobody", Checks.waiting(y), 0);
        Checks.due("the last one is named", y.home(9, 0), 0);
    }

    private static void lastPerson() {
        Checks.holds("Terms", "People are numbered from 0, up to 10, each at home at a server.");
        Villagepost x = ofTen();
        Checks.makeFollower(x, 9, 0);
        Checks.due("9 follows, as is known at server 1", x.between(1, 9, 0), 2);
        Checks.makeFollower(x, 0, 9);
        Checks.due("9 is followed", x.between(0, 0, 9), 2);
        x.alias(9, 8);
        Checks.settle(x);
        Checks.makeFollower(x, 7, 8);
        Checks.due("8 moves to 9", x.move(8, 9), 1);
        Checks.settle(x);
        Checks.due("7 follows 9", x.between(3, 7, 9), 2);
        x.block(9, 8, true);
        Checks.due("9 blocks 8", x.between(1, 9, 8), 4);
        Checks.due("8 does not block 9", x.between(1, 8, 9), 0);
        x.post(9, Villagepost.FOLLOWERS, 0, NONE);
        Checks.settle(x);
        Checks.due("0 sees what 9 posts", x.sees(0, 0), true);
        Checks.due("7 sees what 9 posts", x.seesAnew(7, 0), true);
        Checks.due("4 does not", x.sees(4, 0), false);
        x.leave(9, 0);
        Checks.due("9 leaves", x.between(1, 9, 0), 0);
    }

    private static void eleventhPerson() {
        Checks.holds("Promise 2", "if there are 10");
        Twins nine = new Twins(9, 0, x -> {
            for (int i = 0; i < 9; i++) {
                x.person(0);
            }
        });
        nine.allowed("the tenth", x -> x.person(0));
        nine.refused("the tenth is not there", Checks.BOUNDS, x -> x.home(9, 0));
        Twins ten = new Twins(10, 0, LimitsTest::full);
        for (int i = 0; i < 4; i++) {
            int server = i;
            ten.refused("an eleventh at server " + i, Checks.STATE, x -> x.person(server));
        }
        ten.allowed("the tenth is there", x -> x.home(9, 0));
        ten.refused("the eleventh is not there", Checks.BOUNDS, x -> x.home(10, 0));
        ten.refused("the eleventh is not there", Checks.BOUNDS, x -> x.follow(0, 10));
        Checks.holds("Promise 2; Terms", "if several exceptions apply, the one that its @throws lines name first is thrown");
        ten.refused("an eleventh at server 4", Checks.BOUNDS, x -> x.person(4));
        ten.refused("an eleventh at server -1", Checks.BOUNDS, x -> x.person(-1));
    }

    private static void namedByTen() {
        Checks.holds("Promise 9", "the sum of 2 to the power of each who is named");
        Villagepost x = ofTen();
        for (int i = 0; i < 10; i++) {
            x.post(0, Villagepost.DIRECT, 1 << i, NONE);
        }
        x.post(0, Villagepost.DIRECT, 1023, NONE);
        x.post(0, Villagepost.DIRECT, 0, NONE);
        Checks.settle(x);
        for (int i = 1; i < 10; i++) {
            Checks.home("named alone, and with all", x, i, 10, i);
        }
        for (int i = 0; i < 10; i++) {
            Checks.due("named by a power", x.sees(1, i), i == 1);
        }
        Checks.holds("Promise 9", "if kind is out of range, or named has somebody who is not there, or is below 0");
        Twins ten = new Twins(10, 0, LimitsTest::full);
        ten.allowed("named 1023", y -> y.post(0, 0, 1023, NONE));
        for (int named : new int[] {1024, 1025, 1 << 30, Integer.MAX_VALUE, -1, -1024, Integer.MIN_VALUE}) {
            ten.refused("named " + named, Checks.ARGUMENT, y -> y.post(0, 0, named, NONE));
        }
        for (int people = 1; people < 10; people++) {
            Villagepost y = new Villagepost();
            for (int i = 0; i < people; i++) {
                y.person(0);
            }
            int next = 1 << people;
            Checks.refused("all but who comes next are there", Checks.ARGUMENT, () -> y.post(0, 0, next, NONE));
            Checks.due("all are named", y.post(0, 0, next - 1, NONE), 0);
        }
    }

    /** Two people at two servers, and 50 posts by turns. */
    private static void fifty(Villagepost x) {
        x.person(0);
        x.person(1);
        for (int i = 0; i < 50; i++) {
            x.post(i % 2, Villagepost.PUBLIC, 0, NONE);
        }
    }

    private static void fiftyPosts() {
        Checks.holds("Posts; promise 9", "Posts are numbered from 0, up to 50.");
        Villagepost x = Checks.village(0, 1);
        for (int i = 0; i < 50; i++) {
            int next = i;
            Checks.refused("not there yet", Checks.BOUNDS, () -> x.sees(0, next));
            Checks.due("number", x.post(0, i % 3, 2, i - 1), i);
            Checks.due("known", x.ofServer(0, 2), i + 1);
        }
        Checks.due("packets", x.ofServer(1, 0), 50);
        Checks.settle(x);
        Checks.due("all are known there", x.ofServer(1, 2), 50);
        Checks.due("the greatest first", x.home(1, 0), 49);
        Checks.due("the least last", x.home(1, 49), 0);
        Checks.due("not so many", x.home(1, 50), NONE);
        Checks.due("the last one is found anew", x.seesAnew(1, 49), true);
        x.boost(1, 48);
        Checks.due("the last one is deleted", x.delete(49), 1);
        Checks.due("the greatest first", x.home(0, 0), 48);
        Checks.due("49 are known", x.ofServer(0, 2), 49);
    }

    private static void fiftyFirstPost() {
        Checks.holds("Promise 9", "if there are 50, or the person does not see the other post");
        Twins posts = new Twins(2, 50, LimitsTest::fifty);
        posts.refused("a 51st", Checks.STATE, x -> x.post(0, 0, 0, NONE));
        posts.refused("a 51st, direct", Checks.STATE, x -> x.post(1, 2, 1, NONE));
        posts.refused("a 51st, a reply to what is seen", Checks.STATE, x -> x.post(1, 0, 0, 49));
        posts.refused("a 51st, a reply to what is not seen", Checks.STATE, x -> x.post(0, 0, 0, 49));
        posts.refused("post 50 is not there", Checks.BOUNDS, x -> x.delete(50));
        Checks.holds("Promise 9; Terms", "if several exceptions apply, the one that its @throws lines name first is thrown");
        posts.refused("nobody", Checks.BOUNDS, x -> x.post(2, 0, 0, NONE));
        posts.refused("a reply to no post", Checks.BOUNDS, x -> x.post(0, 0, 0, 50));
        posts.refused("kind", Checks.ARGUMENT, x -> x.post(0, 3, 0, NONE));
        posts.refused("named", Checks.ARGUMENT, x -> x.post(0, 0, 4, NONE));
        Checks.holds("Posts; promise 9", "Posts are numbered from 0, up to 50.");
        Villagepost x = new Villagepost();
        fifty(x);
        x.delete(49);
        x.delete(0);
        Checks.refused("a deleted post makes no room", Checks.STATE, () -> x.post(0, 0, 0, NONE));
        Villagepost y = new Villagepost();
        y.person(0);
        for (int i = 0; i < 49; i++) {
            y.post(0, 0, 0, NONE);
        }
        Checks.refused("what is refused is not numbered", Checks.ARGUMENT, () -> y.post(0, 3, 0, NONE));
        Checks.due("the fiftieth", y.post(0, 0, 0, NONE), 49);
    }

    /** Posts that are 32 apart share a place in an int, as each does with another by a shift that wraps around. */
    private static void eachPostIsItsOwn() {
        Checks.holds("Promise 11", "if they do not see it, it is not PUBLIC, or they have boosted it");
        Villagepost x = Checks.village(0);
        for (int i = 0; i < 50; i++) {
            x.post(0, Villagepost.PUBLIC, 0, NONE);
        }
        int[] some = {0, 17, 18, 31, 32, 33, 49};
        for (int post : some) {
            Checks.refused("post " + post + " is not boosted yet", "nothing", () -> x.boost(0, post));
            Checks.refused("post " + post + " is boosted", Checks.STATE, () -> x.boost(0, post));
        }
        for (int post : some) {
            Checks.refused("post " + post + " is boosted still", Checks.STATE, () -> x.boost(0, post));
        }
        Checks.refused("1 is not boosted", "nothing", () -> x.boost(0, 1));
        Checks.holds("Posts; promise 10", "marks it: it is not known any more, nor ever again where the mark was done");
        for (int i = 0; i < some.length; i++) {
            x.delete(some[i]);
            Checks.due("known", x.ofServer(0, 2), 49 - i);
            Checks.due("marks", x.ofServer(0, 3), i + 1);
        }
        int gone = 0;
        for (int post = 0; post < 50; post++) {
            boolean deleted = gone < some.length && some[gone] == post;
            gone += deleted ? 1 : 0;
            Checks.due("sees " + post, x.sees(0, post), !deleted);
            Checks.due("sees anew " + post, x.seesAnew(0, post), !deleted);
        }
    }

    private static void eachPersonIsTheirOwn() {
        Checks.holds("Promise 14", "4 how many follows; 5 how many asks");
        Villagepost x = new Villagepost();
        for (int i = 0; i < 10; i++) {
            x.person(0);
        }
        int asks = 0;
        for (int a = 0; a < 10; a++) {
            for (int b = 0; b < 10; b++) {
                if (a != b) {
                    x.follow(a, b);
                    asks++;
                }
            }
            Checks.due("asks of " + a, x.ofServer(0, 5), asks);
        }
        for (int a = 0; a < 10; a++) {
            for (int b = 0; b < 10; b++) {
                Checks.due("between " + a + " and " + b, x.between(0, a, b), a == b ? 0 : 1);
                if (a != b) {
                    x.answer(b, a, true);
                }
            }
            Checks.due("follows of " + a, x.ofServer(0, 4), 9 * (a + 1));
            Checks.due("asks after " + a, x.ofServer(0, 5), 90 - 9 * (a + 1));
        }
        Checks.due("acts", x.ofServer(0, 1), 180);
    }

    private static void calls() {
        Checks.holds("What it is", "An object is used for at most 512 calls after it has been made; what later calls answer is free.");
        Villagepost x = Checks.village(0, 1);
        for (int call = 3; call < 512; call++) {
            x.alias(0, 1);
        }
        Checks.due("packets at the 512th call", x.ofServer(1, 0), 509);
        Villagepost y = Checks.village(0, 1);
        for (int call = 3; call < 512; call++) {
            y.alias(0, 1);
        }
        Checks.due("acts at the 512th call", y.ofServer(0, 1), 509);
        Villagepost z = Checks.village(0, 1);
        for (int call = 3; call < 511; call += 2) {
            z.alias(0, 1);
            Checks.due("packet", z.deliver(1), Villagepost.ALIAS);
        }
        Checks.due("acts at the 511th call", z.ofServer(1, 1), 254);
        Checks.due("the 512th call", z.repeat(1), Villagepost.ALIAS);
        Villagepost w = Checks.village(0, 1);
        w.post(0, Villagepost.FOLLOWERS, 2, NONE);
        for (int call = 4; call < 512; call++) {
            w.block(0, 1, call % 2 == 0);
        }
        Checks.due("found anew from a long log", w.seesAnew(0, 0), true);
    }

    private static Villagepost afterAliases(int people, int calls) {
        Villagepost x = new Villagepost();
        for (int i = 0; i < people; i++) {
            x.person(0);
        }
        for (int call = people; call < calls; call++) {
            x.alias(1, 0);
        }
        return x;
    }

    private static void lastCalls() {
        Checks.holds("What it is", "An object is used for at most 512 calls after it has been made; what later calls answer is free.");
        Checks.due("a move at the 512th call", afterAliases(2, 511).move(0, 1), 0);
        Checks.due("a post at the 512th call", afterAliases(2, 511).post(0, 0, 0, NONE), 0);
        Checks.due("a person at the 512th call", afterAliases(9, 511).person(0), 9);
        Villagepost x = afterAliases(2, 510);
        x.follow(0, 1);
        Checks.due("an ask of the 511th call", x.between(0, 0, 1), 1);
        Villagepost y = afterAliases(2, 510);
        Checks.due("a post at the 511th call", y.post(1, 0, 0, NONE), 0);
        Checks.due("is seen at the 512th", y.sees(0, 0), true);
        Villagepost z = afterAliases(2, 510);
        z.post(1, 0, 0, NONE);
        Checks.due("is found anew at the 512th", z.seesAnew(0, 0), true);
        Villagepost w = afterAliases(2, 510);
        w.post(1, 0, 0, NONE);
        Checks.due("is deleted at the 512th", w.delete(0), 0);
        Checks.refused("refused at the 512th", Checks.ARGUMENT, () -> afterAliases(2, 511).follow(0, 0));
        Checks.refused("not refused at the 512th", "nothing", () -> afterAliases(2, 511).follow(0, 1));
    }

    /** What these calls answer is free, but not that the machine throws in them. */
    private static void laterCalls() {
        Checks.holds("What it is", "what later calls answer is free");
        for (int calls = 510; calls < 520; calls++) {
            Villagepost x = afterAliases(2, calls);
            x.person(1);
            endsWell("post", () -> x.post(0, Villagepost.PUBLIC, 4, NONE));
            endsWell("reply", () -> x.post(1, Villagepost.PUBLIC, 4, 0));
            endsWell("boost", () -> x.boost(1, 0));
            endsWell("delete", () -> x.delete(0));
            endsWell("follow", () -> x.follow(0, 2));
            endsWell("leave", () -> x.leave(0, 2));
            endsWell("follow, within a server", () -> x.follow(0, 1));
            endsWell("answer", () -> x.answer(1, 0, true));
            endsWell("alias", () -> x.alias(2, 0));
            endsWell("block", () -> x.block(0, 2, true));
            endsWell("unblock", () -> x.block(0, 2, false));
            endsWell("move", () -> x.move(0, 1));
            endsWell("deliver", () -> x.deliver(1));
            endsWell("repeat", () -> x.repeat(1));
            endsWell("seesAnew", () -> x.seesAnew(0, 0));
            endsWell("home", () -> x.home(0, 0));
            endsWell("sees", () -> x.sees(0, 0));
            endsWell("between", () -> x.between(0, 0, 1));
            endsWell("ofServer", () -> x.ofServer(0, 1));
        }
    }

    private static void endsWell(String what, Checks.Call call) {
        String thrown = Checks.thrownBy(call);
        boolean own = thrown.equals("nothing") || thrown.equals(Checks.BOUNDS) || thrown.equals(Checks.STATE);
        Checks.due(what + " ends with " + thrown, own, true);
    }
}
