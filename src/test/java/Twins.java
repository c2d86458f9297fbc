import java.util.ArrayList;
import java.util.List;

/**
 * Two villages with one story, the second with a refused call behind it: all that both answer later must be
 * the same. They are made anew for each question, as an object is used for 512 calls.
 */
final class Twins {
    interface Story {
        void tell(Villagepost x);
    }

    private interface Question {
        String ask(Villagepost x);
    }

    private interface Act {
        int of(Villagepost x);
    }

    private final Story story;
    private final int people;
    private final int posts;
    private final List<String> names = new ArrayList<>();
    private final List<Question> questions = new ArrayList<>();
    private final List<String> answers = new ArrayList<>();

    Twins(int people, int posts, Story story) {
        this.people = people;
        this.posts = posts;
        this.story = story;
        askServers();
        askPeople();
        askActs();
        for (Question question : questions) {
            answers.add(question.ask(made()));
        }
    }

    /** The call must throw just that exception, and change nothing. */
    void refused(String call, String exception, Story told) {
        Villagepost x = made();
        Checks.refused(call, exception, () -> told.tell(x));
        Checks.due(call + " changes", changedBy(told), "nothing");
    }

    void allowed(String call, Story told) {
        Villagepost x = made();
        Checks.refused(call, "nothing", () -> told.tell(x));
    }

    private Villagepost made() {
        Villagepost x = new Villagepost();
        story.tell(x);
        return x;
    }

    private String changedBy(Story told) {
        for (int i = 0; i < questions.size(); i++) {
            Villagepost x = made();
            Checks.thrownBy(() -> told.tell(x));
            String answer = questions.get(i).ask(x);
            if (!answer.equals(answers.get(i))) {
                return names.get(i) + " from " + answers.get(i) + " to " + answer;
            }
        }
        return "nothing";
    }

    private void add(String name, Question question) {
        names.add(name);
        questions.add(question);
    }

    private void askServers() {
        for (int i = 0; i < 4; i++) {
            int server = i;
            add("what server " + i + " knows", x -> {
                StringBuilder text = new StringBuilder();
                for (int a = 0; a < people; a++) {
                    for (int b = 0; b < people; b++) {
                        text.append(x.between(server, a, b));
                    }
                }
                return text.append(numbers(x)).toString();
            });
        }
    }

    private void askPeople() {
        for (int i = 0; i < people; i++) {
            int person = i;
            add("what " + i + " sees", x -> {
                StringBuilder text = new StringBuilder();
                for (int post = 0; post < posts; post++) {
                    text.append(x.sees(person, post) ? 1 : 0).append(x.seesAnew(person, post) ? 1 : 0);
                }
                for (int place = 0; place <= posts; place++) {
                    text.append(' ').append(x.home(person, place));
                }
                return text.toString();
            });
        }
    }

    /** What each further call answers and brings about tells what is hidden: aliases, boosts, numbers, packets. */
    private void askActs() {
        addAct("person", x -> x.person(3));
        for (int i = 0; i < 4; i++) {
            int server = i;
            addAct("deliver " + i, x -> x.deliver(server));
            addAct("repeat " + i, x -> x.repeat(server));
        }
        for (int a = 0; a < people; a++) {
            for (int b = 0; b < people; b++) {
                askActsOfTwo(a, b);
            }
            askActsWithPosts(a);
        }
        for (int i = 0; i < posts; i++) {
            int post = i;
            addAct("delete " + i, x -> x.delete(post));
        }
    }

    private void askActsOfTwo(int a, int b) {
        String two = " " + a + " " + b;
        addVoid("follow" + two, x -> x.follow(a, b));
        addVoid("answer" + two, x -> x.answer(a, b, true));
        addVoid("leave" + two, x -> x.leave(a, b));
        addVoid("block" + two, x -> x.block(a, b, true));
        addVoid("unblock" + two, x -> x.block(a, b, false));
        addVoid("alias" + two, x -> x.alias(a, b));
        addAct("move" + two, x -> x.move(a, b));
    }

    private void askActsWithPosts(int a) {
        int all = (1 << people) - 1;
        addAct("post " + a, x -> x.post(a, Villagepost.PUBLIC, all, Villagepost.NONE));
        for (int i = 0; i < posts; i++) {
            int post = i;
            addAct("reply " + a + " " + i, x -> x.post(a, Villagepost.PUBLIC, 0, post));
            addVoid("boost " + a + " " + i, x -> x.boost(a, post));
        }
    }

    private void addVoid(String name, Story act) {
        addAct(name, x -> {
            act.tell(x);
            return 0;
        });
    }

    private void addAct(String name, Act act) {
        add(name, x -> {
            String answer;
            try {
                answer = "" + act.of(x);
            } catch (RuntimeException e) {
                answer = Checks.nameOf(e);
            }
            String sent = numbers(x);
            Checks.settle(x);
            return answer + sent + numbers(x);
        });
    }

    private static String numbers(Villagepost x) {
        StringBuilder text = new StringBuilder(":");
        for (int server = 0; server < 4; server++) {
            for (int what = 0; what < 6; what++) {
                text.append(' ').append(x.ofServer(server, what));
            }
        }
        return text.toString();
    }
}
