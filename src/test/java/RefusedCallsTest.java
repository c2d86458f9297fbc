/**
 * Every @throws line of the document: the last value that is right, the first that is wrong on either side,
 * and that a refused call changes nothing, as a twin without that call tells.
 */
public final class RefusedCallsTest {
    private static final String THROWS = "A call that throws an exception changes nothing; if several exceptions apply, "
        + "the one that its @throws lines name first is thrown.";
    private static final String NO_SERVER = "if there is no such server";
    private static final String NO_ONE_OF_TWO = "if there is no such person, of either";
    private static final String NO_PERSON_OR_POST = "if there is no such person or post";
    private static final String BOTH_ARE_ONE = "if both are one";

    private static final int[] NO_SERVERS = {Integer.MIN_VALUE, -1, 4, Integer.MAX_VALUE};
    private static final int[] NOBODIES = {Integer.MIN_VALUE, -1, 4, Integer.MAX_VALUE};
    private static final int[] NO_POSTS = {Integer.MIN_VALUE, -1, 7, Integer.MAX_VALUE};

    private interface OfTwo {
        void call(Villagepost x, int person, int other);
    }

    private static final Twins MARKET = new Twins(4, 7, RefusedCallsTest::market);

    /** 0 and 3 are at server 0, 1 is at server 1, 2 at server 2; posts 0 to 6; two packets wait at server 1. */
    private static void market(Villagepost x) {
        x.person(0);
        x.person(1);
        x.person(2);
        x.person(0);
        // 0 follows 1, 2 asks 1, 3 blocks 2 and has 0 as an alias.
        x.follow(0, 1);
        x.deliver(1);
        x.answer(1, 0, true);
        x.deliver(0);
        x.follow(2, 1);
        x.deliver(1);
        x.block(3, 2, true);
        x.deliver(2);
        x.alias(3, 0);
        // Posts 0 and 1 go to server 0, post 2 nowhere, post 3 is deleted, post 4 is boosted.
        x.post(1, Villagepost.PUBLIC, 0, Villagepost.NONE);
        x.post(1, Villagepost.DIRECT, 1, Villagepost.NONE);
        x.post(0, Villagepost.FOLLOWERS, 0, Villagepost.NONE);
        x.post(0, Villagepost.PUBLIC, 0, Villagepost.NONE);
        x.delete(3);
        x.post(0, Villagepost.PUBLIC, 0, Villagepost.NONE);
        x.boost(0, 4);
        // Post 5 goes to server 0 too, and names 3; post 6 is known at server 2 alone.
        x.post(2, Villagepost.PUBLIC, 8, Villagepost.NONE);
        x.post(2, Villagepost.PUBLIC, 0, Villagepost.NONE);
        x.deliver(0);
        x.deliver(0);
        x.deliver(0);
        // Not known at server 1 yet.
        x.follow(3, 1);
        x.alias(2, 1);
    }

    public static void main(String[] args) {
        person();
        follow();
        answer();
        leave();
        block();
        alias();
        move();
        postBounds();
        postArguments();
        postStates();
        delete();
        boost();
        packets();
        ofServer();
        between();
        seeing();
        home();
        followsAllowedLater();
        postsAllowedLater();
        severalOfTwo();
        severalOfPost();
        severalElse();
        Checks.finish("RefusedCallsTest");
    }

    private static void noServers(String name, OfTwo call) {
        for (int server : NO_SERVERS) {
            MARKET.refused(name + ", server " + server, Checks.BOUNDS, x -> call.call(x, server, 0));
        }
        MARKET.allowed(name + ", server 0", x -> call.call(x, 0, 0));
        MARKET.allowed(name + ", server 3", x -> call.call(x, 3, 0));
    }

    private static void nobodies(String name, OfTwo call) {
        for (int nobody : NOBODIES) {
            MARKET.refused(name + ", person " + nobody, Checks.BOUNDS, x -> call.call(x, nobody, 1));
            MARKET.refused(name + ", other " + nobody, Checks.BOUNDS, x -> call.call(x, 0, nobody));
        }
    }

    private static void nobodyOrNoPost(String name, OfTwo call) {
        for (int nobody : NOBODIES) {
            MARKET.refused(name + ", person " + nobody, Checks.BOUNDS, x -> call.call(x, nobody, 0));
        }
        for (int post : NO_POSTS) {
            MARKET.refused(name + ", post " + post, Checks.BOUNDS, x -> call.call(x, 0, post));
        }
    }

    private static void bothAreOne(String name, OfTwo call) {
        for (int i = 0; i < 4; i++) {
            int one = i;
            MARKET.refused(name + ", both are " + i, Checks.ARGUMENT, x -> call.call(x, one, one));
        }
    }

    private static void person() {
        Checks.holds("Promise 2", NO_SERVER);
        noServers("person", (x, server, none) -> x.person(server));
    }

    private static void follow() {
        Checks.holds("Promise 3", NO_ONE_OF_TWO);
        nobodies("follow", Villagepost::follow);
        MARKET.allowed("follow, the first and the last one", x -> x.follow(0, 3));
        MARKET.allowed("follow, the last and the first one", x -> x.follow(3, 0));
        Checks.holds("Promise 3", BOTH_ARE_ONE);
        bothAreOne("follow", Villagepost::follow);
        Checks.holds("Promise 3", "if the one asks or follows the other already, or a block between them is known, at the server of the one");
        MARKET.refused("follow, asks already", Checks.STATE, x -> x.follow(2, 1));
        MARKET.refused("follow, asks already, which is not known at the other's", Checks.STATE, x -> x.follow(3, 1));
        MARKET.refused("follow, follows already", Checks.STATE, x -> x.follow(0, 1));
        MARKET.refused("follow, own block", Checks.STATE, x -> x.follow(3, 2));
        MARKET.refused("follow, the other one's block", Checks.STATE, x -> x.follow(2, 3));
        MARKET.allowed("follow, the other one follows", x -> x.follow(1, 0));
        MARKET.allowed("follow, the other one asks", x -> x.follow(1, 2));
        MARKET.allowed("follow, a block between others", x -> x.follow(3, 0));

        Villagepost x = Checks.village(0, 1);
        x.follow(0, 1);
        x.deliver(1);
        x.answer(1, 0, false);
        Checks.refused("refused, as is known at the other's alone", Checks.STATE, () -> x.follow(0, 1));
        x.deliver(0);
        Checks.refused("refused, as is known at home", "nothing", () -> x.follow(0, 1));
        Villagepost y = Checks.village(0, 1);
        Checks.makeFollower(y, 0, 1);
        y.block(1, 0, true);
        Checks.refused("blocked, as is known at the other's alone: follows still", Checks.STATE, () -> y.follow(0, 1));
        y.leave(0, 1);
        Checks.refused("a block that is known at the other's alone", "nothing", () -> y.follow(0, 1));
    }

    private static void answer() {
        Checks.holds("Promise 4", NO_ONE_OF_TWO);
        nobodies("accept", (x, person, other) -> x.answer(person, other, true));
        nobodies("refuse", (x, person, other) -> x.answer(person, other, false));
        Checks.holds("Promise 4", "if the other one does not ask, as the server of the one knows");
        for (boolean accepted : new boolean[] {true, false}) {
            String name = "answer " + accepted;
            MARKET.refused(name + ", follows already", Checks.STATE, x -> x.answer(1, 0, accepted));
            MARKET.refused(name + ", the one asks", Checks.STATE, x -> x.answer(2, 1, accepted));
            MARKET.refused(name + ", nobody asks", Checks.STATE, x -> x.answer(0, 2, accepted));
            MARKET.refused(name + ", not known there yet", Checks.STATE, x -> x.answer(1, 3, accepted));
            MARKET.refused(name + ", a block", Checks.STATE, x -> x.answer(3, 2, accepted));
            MARKET.refused(name + ", oneself", Checks.STATE, x -> x.answer(1, 1, accepted));
            MARKET.allowed(name, x -> x.answer(1, 2, accepted));

            Villagepost x = Checks.village(0, 1);
            x.follow(0, 1);
            x.deliver(1);
            x.leave(0, 1);
            Checks.refused(name + ", left, as is known at the other's alone", "nothing", () -> x.answer(1, 0, accepted));
            Checks.refused(name + ", answered", Checks.STATE, () -> x.answer(1, 0, accepted));
        }
    }

    private static void leave() {
        Checks.holds("Promise 5", NO_ONE_OF_TWO);
        nobodies("leave", Villagepost::leave);
        Checks.holds("Promise 5", "if the one neither asks nor follows the other, as the server of the one knows");
        MARKET.refused("leave, the other one follows", Checks.STATE, x -> x.leave(1, 0));
        MARKET.refused("leave, the other one asks", Checks.STATE, x -> x.leave(1, 2));
        MARKET.refused("leave, nothing is between them", Checks.STATE, x -> x.leave(0, 2));
        MARKET.refused("leave, a block", Checks.STATE, x -> x.leave(3, 2));
        MARKET.refused("leave, oneself", Checks.STATE, x -> x.leave(0, 0));
        MARKET.allowed("leave, asks", x -> x.leave(2, 1));
        MARKET.allowed("leave, asks, which is not known at the other's", x -> x.leave(3, 1));
        MARKET.allowed("leave, follows", x -> x.leave(0, 1));

        // A move has made 0 a follower of 2, as server 1 knows alone.
        Villagepost x = Checks.village(0, 1, 1);
        Checks.makeFollower(x, 0, 1);
        x.alias(2, 1);
        x.move(1, 2);
        Checks.refused("follows, as is known at the other's alone", Checks.STATE, () -> x.leave(0, 2));
        Checks.refused("follows no more, as is known at the other's alone", "nothing", () -> x.leave(0, 1));
        x.deliver(0);
        Checks.refused("follows, as is known at home", "nothing", () -> x.leave(0, 2));
    }

    private static void block() {
        Checks.holds("Promise 6", NO_ONE_OF_TWO);
        nobodies("block", (x, person, other) -> x.block(person, other, true));
        nobodies("unblock", (x, person, other) -> x.block(person, other, false));
        Checks.holds("Promise 6", BOTH_ARE_ONE);
        bothAreOne("block", (x, person, other) -> x.block(person, other, true));
        bothAreOne("unblock", (x, person, other) -> x.block(person, other, false));
        Checks.holds("Promise 6", "if it is so already, as the server of the one knows");
        MARKET.refused("blocks already", Checks.STATE, x -> x.block(3, 2, true));
        MARKET.refused("the other one blocks", Checks.STATE, x -> x.block(2, 3, false));
        MARKET.refused("follows, and does not block", Checks.STATE, x -> x.block(0, 1, false));
        MARKET.refused("asks, and does not block", Checks.STATE, x -> x.block(2, 1, false));
        MARKET.refused("nothing is between them", Checks.STATE, x -> x.block(0, 2, false));
        MARKET.allowed("unblock", x -> x.block(3, 2, false));
        MARKET.allowed("block, the other one blocks", x -> x.block(2, 3, true));
        MARKET.allowed("block, follows", x -> x.block(0, 1, true));

        Villagepost x = Checks.village(0, 1);
        x.block(0, 1, true);
        Checks.refused("known at home alone", "nothing", () -> x.block(0, 1, false));
        Checks.refused("taken away, as is known at home alone", Checks.STATE, () -> x.block(0, 1, false));
    }

    private static void alias() {
        Checks.holds("Promise 7", NO_ONE_OF_TWO);
        nobodies("alias", Villagepost::alias);
        Checks.holds("Promise 7", BOTH_ARE_ONE);
        bothAreOne("alias", Villagepost::alias);
        MARKET.allowed("alias, the first and the last one", x -> x.alias(0, 3));
        MARKET.allowed("alias, the same again", x -> x.alias(3, 0));
        MARKET.allowed("alias, a block between them", x -> x.alias(3, 2));
    }

    private static void move() {
        Checks.holds("Promise 8", NO_ONE_OF_TWO);
        nobodies("move", Villagepost::move);
        Checks.holds("Promise 8", "if the other one has not the one as an alias, as the server of the one knows");
        MARKET.refused("move, the one has the other as an alias", Checks.STATE, x -> x.move(3, 0));
        MARKET.refused("move, no alias", Checks.STATE, x -> x.move(0, 1));
        MARKET.refused("move, another one's alias", Checks.STATE, x -> x.move(1, 3));
        MARKET.refused("move, the alias is not known there yet", Checks.STATE, x -> x.move(1, 2));
        MARKET.refused("move, to oneself", Checks.STATE, x -> x.move(0, 0));
        MARKET.refused("move, to oneself, who has another one as an alias", Checks.STATE, x -> x.move(3, 3));
        MARKET.allowed("move", x -> x.move(0, 3));

        Villagepost x = Checks.village(0, 1, 1);
        x.alias(1, 0);
        x.deliver(0);
        x.alias(1, 2);
        Checks.refused("another alias, as is known elsewhere", "nothing", () -> x.move(0, 1));
        Checks.refused("the new alias is known at once at one server", "nothing", () -> x.move(2, 1));
    }

    private static void postBounds() {
        Checks.holds("Promise 9", NO_PERSON_OR_POST);
        for (int nobody : NOBODIES) {
            MARKET.refused("post, person " + nobody, Checks.BOUNDS, x -> x.post(nobody, 0, 0, Villagepost.NONE));
        }
        for (int post : new int[] {Integer.MIN_VALUE, -2, 7, 8, Integer.MAX_VALUE}) {
            MARKET.refused("post, reply to " + post, Checks.BOUNDS, x -> x.post(0, 0, 0, post));
        }
        MARKET.allowed("post, the last person, no reply", x -> x.post(3, 0, 0, Villagepost.NONE));
        MARKET.allowed("post, reply to the first post", x -> x.post(0, 0, 0, 0));
        MARKET.allowed("post, reply to the last post", x -> x.post(2, 0, 0, 6));
    }

    private static void postArguments() {
        Checks.holds("Promise 9", "if kind is out of range, or named has somebody who is not there, or is below 0");
        for (int kind : new int[] {Integer.MIN_VALUE, -1, 3, Integer.MAX_VALUE}) {
            MARKET.refused("post, kind " + kind, Checks.ARGUMENT, x -> x.post(0, kind, 0, Villagepost.NONE));
        }
        for (int i = 0; i < 3; i++) {
            int kind = i;
            MARKET.allowed("post, kind " + kind, x -> x.post(0, kind, 0, Villagepost.NONE));
        }
        for (int named : new int[] {Integer.MIN_VALUE, -16, -1, 16, 17, 31, 512, 1 << 30, Integer.MAX_VALUE}) {
            MARKET.refused("post, named " + named, Checks.ARGUMENT, x -> x.post(0, 0, named, Villagepost.NONE));
        }
        for (int i = 0; i < 16; i++) {
            int named = i;
            MARKET.allowed("post, named " + i, x -> x.post(0, 0, named, Villagepost.NONE));
        }
    }

    private static void postStates() {
        Checks.holds("Promise 9", "if there are 50, or the person does not see the other post");
        MARKET.refused("reply, not known there", Checks.STATE, x -> x.post(0, 0, 0, 6));
        MARKET.refused("reply, known there later", Checks.STATE, x -> x.post(2, 0, 0, 0));
        MARKET.refused("reply, deleted", Checks.STATE, x -> x.post(0, 0, 0, 3));
        MARKET.refused("reply, a block", Checks.STATE, x -> x.post(3, 0, 0, 5));
        MARKET.refused("reply, direct", Checks.STATE, x -> x.post(3, 0, 0, 1));
        MARKET.refused("reply, to followers", Checks.STATE, x -> x.post(3, 0, 0, 2));
        MARKET.allowed("reply, named", x -> x.post(0, 0, 0, 1));
        MARKET.allowed("reply, one's own", x -> x.post(0, 0, 0, 2));
        MARKET.allowed("reply, public", x -> x.post(3, 0, 0, 4));
        MARKET.allowed("reply, no block with the author", x -> x.post(0, 0, 0, 5));
    }

    private static void delete() {
        Checks.holds("Promise 10", "if there is no such post");
        for (int post : NO_POSTS) {
            MARKET.refused("delete " + post, Checks.BOUNDS, x -> x.delete(post));
        }
        MARKET.allowed("delete the first one", x -> x.delete(0));
        MARKET.allowed("delete the last one", x -> x.delete(6));
        Checks.holds("Promise 10", "if it is deleted at the server of its author");
        MARKET.refused("delete again", Checks.STATE, x -> x.delete(3));
        MARKET.allowed("delete another one of the same author", x -> x.delete(2));
    }

    private static void boost() {
        Checks.holds("Promise 11", NO_PERSON_OR_POST);
        nobodyOrNoPost("boost", Villagepost::boost);
        MARKET.allowed("boost, the last person, the first post", x -> x.boost(3, 0));
        MARKET.allowed("boost, the last post", x -> x.boost(2, 6));
        Checks.holds("Promise 11", "if they do not see it, it is not PUBLIC, or they have boosted it");
        MARKET.refused("boost, not known there", Checks.STATE, x -> x.boost(0, 6));
        MARKET.refused("boost, deleted", Checks.STATE, x -> x.boost(0, 3));
        MARKET.refused("boost, a block, though named", Checks.STATE, x -> x.boost(3, 5));
        MARKET.refused("boost, direct and named", Checks.STATE, x -> x.boost(0, 1));
        MARKET.refused("boost, one's own direct one", Checks.STATE, x -> x.boost(1, 1));
        MARKET.refused("boost, one's own to followers", Checks.STATE, x -> x.boost(0, 2));
        MARKET.refused("boost, boosted already", Checks.STATE, x -> x.boost(0, 4));
        MARKET.allowed("boost, boosted by another one", x -> x.boost(3, 4));
        MARKET.allowed("boost, the author is not followed", x -> x.boost(0, 5));
    }

    private static void packets() {
        Checks.holds("Promise 12", NO_SERVER);
        noServers("deliver", (x, server, none) -> x.deliver(server));
        Checks.holds("Promise 13", NO_SERVER);
        noServers("repeat", (x, server, none) -> x.repeat(server));
    }

    private static void ofServer() {
        Checks.holds("Promise 14", NO_SERVER);
        for (int i = 0; i < 6; i++) {
            int what = i;
            noServers("ofServer " + what, (x, server, none) -> x.ofServer(server, what));
        }
        Checks.holds("Promise 14", "if what is out of range");
        for (int what : new int[] {Integer.MIN_VALUE, -1, 6, Integer.MAX_VALUE}) {
            for (int i = 0; i < 4; i++) {
                int server = i;
                MARKET.refused("ofServer " + i + ", what " + what, Checks.ARGUMENT, x -> x.ofServer(server, what));
            }
        }
    }

    private static void between() {
        Checks.holds("Promise 15", "if there is no such server or person, of either");
        noServers("between", (x, server, none) -> x.between(server, 0, 3));
        nobodies("between", (x, person, other) -> x.between(0, person, other));
        MARKET.allowed("between, the last and the first one", x -> x.between(0, 3, 0));
        MARKET.allowed("between, oneself", x -> x.between(0, 3, 3));
    }

    private static void seeing() {
        Checks.holds("Promise 16", NO_PERSON_OR_POST);
        nobodyOrNoPost("sees", Villagepost::sees);
        MARKET.allowed("sees, the last person and post", x -> x.sees(3, 6));
        Checks.holds("Promise 17", NO_PERSON_OR_POST);
        nobodyOrNoPost("seesAnew", Villagepost::seesAnew);
        MARKET.allowed("seesAnew, the last person and post", x -> x.seesAnew(3, 6));
    }

    private static void home() {
        Checks.holds("Promise 18", "if there is no such person, or place is below 0");
        for (int nobody : NOBODIES) {
            MARKET.refused("home, person " + nobody, Checks.BOUNDS, x -> x.home(nobody, 0));
        }
        MARKET.refused("home, place -1", Checks.BOUNDS, x -> x.home(0, -1));
        MARKET.refused("home, the least place", Checks.BOUNDS, x -> x.home(0, Integer.MIN_VALUE));
        MARKET.allowed("home, the first person", x -> x.home(0, 0));
        MARKET.allowed("home, the last person, the greatest place", x -> x.home(3, Integer.MAX_VALUE));
    }

    /** What was refused can be done, and does what it does, as soon as nothing is in its way any more. */
    private static void followsAllowedLater() {
        Checks.holds("Promises 3, 4, 5, 6 and 8; Terms", "A call that throws an exception changes nothing");
        Villagepost x = Checks.village(0, 1);
        x.block(0, 1, true);
        Checks.refused("follow, a block", Checks.STATE, () -> x.follow(0, 1));
        Checks.refused("leave, no ask", Checks.STATE, () -> x.leave(0, 1));
        x.block(0, 1, false);
        Checks.refused("unblock, no block", Checks.STATE, () -> x.block(0, 1, false));
        x.follow(0, 1);
        Checks.due("asks once", x.ofServer(0, 5), 1);
        Checks.refused("answer, no ask yet", Checks.STATE, () -> x.answer(1, 0, true));
        Checks.settle(x);
        x.answer(1, 0, true);
        Checks.due("follows", x.between(1, 0, 1), 2);
        Checks.refused("move, no alias", Checks.STATE, () -> x.move(1, 0));
        x.alias(0, 1);
        Checks.refused("move, the alias is not known yet", Checks.STATE, () -> x.move(1, 0));
        Checks.settle(x);
        Checks.due("moves, and tells one", x.move(1, 0), 1);
        Checks.due("acts at 0 and 1", x.ofServer(0, 1) * 10 + x.ofServer(1, 1), 56);

        Villagepost y = Checks.village(0, 1, 0);
        y.alias(1, 0);
        Checks.settle(y);
        Checks.refused("move, another one's alias", Checks.STATE, () -> y.move(2, 1));
        Checks.due("the one who is the alias", y.move(0, 1), 0);
    }

    private static void postsAllowedLater() {
        Checks.holds("Promises 9, 10 and 11; Terms", "A call that throws an exception changes nothing");
        Villagepost x = Checks.village(0, 1, 0);
        x.post(0, Villagepost.PUBLIC, 2, Villagepost.NONE);
        x.follow(2, 1);
        Checks.refused("boost, not known there", Checks.STATE, () -> x.boost(1, 0));
        Checks.refused("reply, not known there", Checks.STATE, () -> x.post(1, 0, 0, 0));
        Checks.refused("delete, no such post", Checks.BOUNDS, () -> x.delete(1));
        Checks.settle(x);
        x.block(1, 0, true);
        Checks.refused("boost, a block", Checks.STATE, () -> x.boost(1, 0));
        Checks.refused("reply, a block", Checks.STATE, () -> x.post(1, 0, 0, 0));
        x.block(1, 0, false);
        x.answer(1, 2, true);
        Checks.settle(x);
        Checks.home("a boost that was refused is none", x, 2);
        x.boost(1, 0);
        Checks.due("a reply has the next number", x.post(1, 0, 0, 0), 1);
        Checks.settle(x);
        Checks.home("the boost and the reply", x, 2, 1, 0);
        Checks.due("deleted", x.delete(1), 1);
    }

    private static void severalOfTwo() {
        Checks.holds("Terms", THROWS);
        for (int nobody : NOBODIES) {
            MARKET.refused("follow, both are one nobody", Checks.BOUNDS, x -> x.follow(nobody, nobody));
            MARKET.refused("block, both are one nobody", Checks.BOUNDS, x -> x.block(nobody, nobody, true));
            MARKET.refused("unblock, both are one nobody", Checks.BOUNDS, x -> x.block(nobody, nobody, false));
            MARKET.refused("alias, both are one nobody", Checks.BOUNDS, x -> x.alias(nobody, nobody));
            MARKET.refused("move, both are one nobody", Checks.BOUNDS, x -> x.move(nobody, nobody));
            MARKET.refused("answer, both are one nobody", Checks.BOUNDS, x -> x.answer(nobody, nobody, true));
            MARKET.refused("leave, both are one nobody", Checks.BOUNDS, x -> x.leave(nobody, nobody));
        }
        MARKET.refused("unblock, both are one who is not blocked", Checks.ARGUMENT, x -> x.block(2, 2, false));
    }

    private static void severalOfPost() {
        Checks.holds("Promise 9; Terms", THROWS);
        MARKET.refused("nobody, kind", Checks.BOUNDS, x -> x.post(4, 3, 0, Villagepost.NONE));
        MARKET.refused("nobody, named", Checks.BOUNDS, x -> x.post(4, 0, -1, Villagepost.NONE));
        MARKET.refused("nobody, not seen", Checks.BOUNDS, x -> x.post(-1, 0, 0, 6));
        MARKET.refused("no post, kind", Checks.BOUNDS, x -> x.post(0, -1, 0, 7));
        MARKET.refused("no post, named", Checks.BOUNDS, x -> x.post(0, 0, 16, -2));
        MARKET.refused("kind, not seen", Checks.ARGUMENT, x -> x.post(0, 3, 0, 6));
        MARKET.refused("kind below, not seen", Checks.ARGUMENT, x -> x.post(0, -1, 0, 6));
        MARKET.refused("named is not there, not seen", Checks.ARGUMENT, x -> x.post(0, 0, 16, 6));
        MARKET.refused("named below 0, not seen", Checks.ARGUMENT, x -> x.post(0, 0, -1, 6));
        MARKET.refused("kind, deleted", Checks.ARGUMENT, x -> x.post(0, 3, 0, 3));
        MARKET.refused("kind and named, a block", Checks.ARGUMENT, x -> x.post(3, 3, 16, 5));
    }

    private static void severalElse() {
        Checks.holds("Promises 11 and 14; Terms", THROWS);
        MARKET.refused("boost, nobody, not public", Checks.BOUNDS, x -> x.boost(4, 2));
        MARKET.refused("boost, nobody, boosted", Checks.BOUNDS, x -> x.boost(-1, 4));
        MARKET.refused("boost, nobody, no post", Checks.BOUNDS, x -> x.boost(4, 7));
        MARKET.refused("ofServer, no server, what", Checks.BOUNDS, x -> x.ofServer(4, 6));
        MARKET.refused("ofServer, no server below, what below", Checks.BOUNDS, x -> x.ofServer(-1, -1));
    }
}
