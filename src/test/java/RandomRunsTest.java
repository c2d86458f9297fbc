import java.util.Random;

/** Long runs of calls, drawn by a fixed seed: each answer is compared with that of PlainVillage. */
public final class RandomRunsTest {
    private static final int RUNS = 250;

    private final Random random;
    private final String run;
    private final Villagepost x = new Villagepost();
    private final PlainVillage plain = new PlainVillage();
    private int people = 0;
    private int posts = 0;
    private final int servers;
    private final int crowd;

    private RandomRunsTest(int seed) {
        random = new Random(seed);
        run = "run " + seed + ", ";
        servers = 1 + random.nextInt(4);
        crowd = 2 + random.nextInt(9);
    }

    public static void main(String[] args) {
        for (int seed = 0; seed < RUNS; seed++) {
            new RandomRunsTest(seed).calls();
        }
        for (int seed = 0; seed < 20; seed++) {
            new RandomRunsTest(seed).beyondTheLimit();
        }
        Checks.finish("RandomRunsTest");
    }

    private interface Answer {
        long get();
    }

    private void same(String call, Answer answer, String want) {
        String got;
        try {
            got = "" + answer.get();
        } catch (RuntimeException e) {
            got = Checks.nameOf(e);
        }
        Checks.due(run + call, got, want);
    }

    private interface Done {
        void run();
    }

    private void sameDone(String call, Done done, String want) {
        String got = "ok";
        try {
            done.run();
        } catch (RuntimeException e) {
            got = Checks.nameOf(e);
        }
        Checks.due(run + call, got, want);
    }

    private int someone() {
        return random.nextInt(60) == 0 ? random.nextInt(14) - 2 : random.nextInt(Math.max(1, people));
    }

    private int somePost() {
        if (random.nextInt(60) == 0) {
            return random.nextInt(55) - 2;
        }
        int back = random.nextInt(Math.max(1, random.nextBoolean() ? posts : Math.min(4, posts)));
        return posts - 1 - back;
    }

    private int someServer() {
        return random.nextInt(80) == 0 ? random.nextInt(8) - 2 : random.nextInt(servers);
    }

    private void newPerson(int server) {
        String want = plain.person(server);
        same("person(" + server + ")", () -> x.person(server), want);
        if (Character.isDigit(want.charAt(0))) {
            people++;
        }
    }

    private void calls() {
        for (int call = 0; call < 512; call++) {
            if (people < crowd && random.nextInt(3) == 0 || random.nextInt(100) == 0) {
                newPerson(someServer());
            } else if (random.nextInt(3) == 0) {
                ask();
            } else if (random.nextInt(5) < 2) {
                packet();
            } else {
                act();
            }
        }
        if (posts > 0) {
            for (int person = 0; person < people; person++) {
                compareAll(person);
            }
        }
    }

    private void compareAll(int person) {
        for (int post = 0; post < posts; post++) {
            int p = post;
            same("sees(" + person + ", " + p + ")", () -> x.sees(person, p) ? 1 : 0, plain.sees(person, p));
            same("seesAnew(" + person + ", " + p + ")", () -> x.seesAnew(person, p) ? 1 : 0, plain.sees(person, p));
        }
    }

    private void packet() {
        int s = someServer();
        if (random.nextInt(4) == 0) {
            same("repeat(" + s + ")", () -> x.repeat(s), plain.repeat(s));
        } else {
            same("deliver(" + s + ")", () -> x.deliver(s), plain.deliver(s));
        }
    }

    private void act() {
        int a = someone();
        int b = someone();
        boolean yes = random.nextInt(4) != 0;
        String pair = "(" + a + ", " + b + ")";
        switch (random.nextInt(14)) {
            case 0, 1, 2 -> sameDone("follow" + pair, () -> x.follow(a, b), plain.follow(a, b));
            case 3, 4, 5 -> answerSomebody(a, yes);
            case 6 -> sameDone("leave" + pair, () -> x.leave(a, b), plain.leave(a, b));
            case 7 -> sameDone("block" + pair + yes, () -> x.block(a, b, yes), plain.block(a, b, yes));
            case 8 -> sameDone("unblock" + pair, () -> x.block(a, b, false), plain.block(a, b, false));
            case 9 -> sameDone("alias" + pair, () -> x.alias(a, b), plain.alias(a, b));
            case 10 -> moveSomewhere(a);
            case 11, 12 -> write(a);
            default -> aboutPost(a, somePost());
        }
    }

    /** Looks for somebody who asks, so that answers are not refused for the most part. */
    private void answerSomebody(int a, boolean yes) {
        int b = someone();
        for (int one = 0; one < people; one++) {
            int asker = (b + one) % people;
            if (asker >= 0 && !plain.answerIsRefused(a, asker)) {
                b = asker;
                break;
            }
        }
        int other = b;
        sameDone("answer(" + a + ", " + other + ", " + yes + ")", () -> x.answer(a, other, yes), plain.answer(a, other, yes));
    }

    private void moveSomewhere(int a) {
        for (int b = 0; b < people; b++) {
            int other = b;
            String want = plain.move(a, b);
            same("move(" + a + ", " + b + ")", () -> x.move(a, other), want);
            if (Character.isDigit(want.charAt(0))) {
                return;
            }
        }
    }

    private void write(int a) {
        int kind = random.nextInt(40) == 0 ? random.nextInt(6) - 2 : random.nextInt(6) / 2 % 3 * random.nextInt(2);
        int named = random.nextInt(3) > 0 ? 0 : random.nextInt(40) == 0 ? random.nextInt() : random.nextInt(1 << people);
        int reply = random.nextInt(3) == 0 ? -1 : somePost();
        String want = plain.post(a, kind, named, reply);
        same("post(" + a + ", " + kind + ", " + named + ", " + reply + ")", () -> x.post(a, kind, named, reply), want);
        if (Character.isDigit(want.charAt(0))) {
            posts++;
        }
    }

    private void aboutPost(int a, int p) {
        if (random.nextInt(3) == 0) {
            same("delete(" + p + ")", () -> x.delete(p), plain.delete(p));
        } else {
            sameDone("boost(" + a + ", " + p + ")", () -> x.boost(a, p), plain.boost(a, p));
        }
    }

    private void ask() {
        int s = someServer();
        int a = someone();
        int b = someone();
        int p = somePost();
        int place = random.nextInt(6) - (random.nextInt(20) == 0 ? 3 : 0);
        int what = random.nextInt(30) == 0 ? random.nextInt(10) - 2 : random.nextInt(6);
        switch (random.nextInt(5)) {
            case 0 -> same("ofServer(" + s + ", " + what + ")", () -> x.ofServer(s, what), plain.ofServer(s, what));
            case 1 -> same("between(" + s + ", " + a + ", " + b + ")", () -> x.between(s, a, b), plain.between(s, a, b));
            case 2 -> same("sees(" + a + ", " + p + ")", () -> x.sees(a, p) ? 1 : 0, plain.sees(a, p));
            case 3 -> same("seesAnew(" + a + ", " + p + ")", () -> x.seesAnew(a, p) ? 1 : 0, plain.sees(a, p));
            default -> same("home(" + a + ", " + place + ")", () -> x.home(a, place), plain.home(a, place));
        }
    }

    /** What calls after the 512th answer is free, but none may end in an exception of the machine's own. */
    private void beyondTheLimit() {
        for (int i = 0; i < 10; i++) {
            x.person(random.nextInt(4));
        }
        // So that the 512th act comes early, with much of what follows behind it.
        for (int i = 0; i < 400; i++) {
            x.alias(i % 10, (i + 1) % 10);
        }
        for (int call = 0; call < 3000; call++) {
            int a = random.nextInt(11);
            int b = random.nextInt(10);
            int p = random.nextInt(50);
            int kind = random.nextInt(13);
            try {
                switch (kind) {
                    case 0 -> x.follow(a, b);
                    case 1 -> x.answer(a, b, random.nextBoolean());
                    case 2 -> x.leave(a, b);
                    case 3 -> x.block(a, b, random.nextBoolean());
                    case 4 -> x.alias(a, b);
                    case 5 -> x.move(a, b);
                    case 6 -> x.post(a, p % 3, p, random.nextInt(50) - 1);
                    case 7 -> x.delete(p);
                    case 8 -> x.boost(a, p);
                    case 9 -> x.deliver(a % 4);
                    case 10 -> x.repeat(a % 4);
                    case 11 -> x.seesAnew(a, p);
                    default -> x.home(a, p);
                }
            } catch (IndexOutOfBoundsException | IllegalArgumentException | IllegalStateException e) {
                String name = Checks.nameOf(e);
                Checks.due(run + "call " + call + " throws " + name + " itself", name.startsWith("Array") || name.contains(" "), false);
            }
        }
    }
}
