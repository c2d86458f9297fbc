import java.util.ArrayDeque;
import java.util.ArrayList;
import java.util.HashMap;
import java.util.HashSet;
import java.util.List;
import java.util.Map;
import java.util.Set;
import java.util.TreeSet;

/**
 * The document told once more, slowly: a server keeps its log alone, and every question is answered
 * from that log, act by act. Each call answers a text: the number, "ok", or the exception's name.
 */
final class PlainVillage {
    private static final class Deed {
        String kind;
        int who;
        int whom;
        int post;
        Set<Integer> told = new TreeSet<>();
    }

    private static final class Facts {
        final Set<String> all = new HashSet<>();
        final Map<Integer, Integer> aliases = new HashMap<>();
        final Set<Integer> come = new TreeSet<>();
        final Set<Integer> marks = new TreeSet<>();

        boolean is(int a, String fact, int b) {
            return all.contains(a + fact + b);
        }

        boolean blocked(int a, int b) {
            return is(a, " blocks ", b) || is(b, " blocks ", a);
        }

        void learn(Deed d) {
            String asks = d.who + " asks " + d.whom;
            String asked = d.whom + " asks " + d.who;
            switch (d.kind) {
                case "FOLLOW" -> {
                    if (!is(d.who, " follows ", d.whom) && !blocked(d.who, d.whom)) {
                        all.add(asks);
                    }
                }
                case "ACCEPT" -> {
                    if (all.remove(asked)) {
                        all.add(d.whom + " follows " + d.who);
                    }
                }
                case "REFUSE" -> all.remove(asked);
                case "LEAVE" -> {
                    all.remove(asks);
                    all.remove(d.who + " follows " + d.whom);
                }
                case "BLOCK" -> {
                    all.remove(asks);
                    all.remove(asked);
                    all.remove(d.who + " follows " + d.whom);
                    all.remove(d.whom + " follows " + d.who);
                    all.add(d.who + " blocks " + d.whom);
                }
                case "UNBLOCK" -> all.remove(d.who + " blocks " + d.whom);
                case "ALIAS" -> aliases.put(d.who, d.whom);
                case "MOVE" -> {
                    for (int one : d.told) {
                        all.remove(one + " follows " + d.who);
                        if (one != d.whom && !blocked(one, d.whom)) {
                            all.add(one + " follows " + d.whom);
                            all.remove(one + " asks " + d.whom);
                        }
                    }
                }
                case "POST" -> come.add(d.post);
                case "DELETE" -> marks.add(d.post);
                default -> {
                    come.add(d.post);
                    all.add(d.who + " boosted " + d.post);
                }
            }
        }

        Set<Integer> followers(int of) {
            Set<Integer> found = new TreeSet<>();
            for (int one = 0; one < 10; one++) {
                if (is(one, " follows ", of)) {
                    found.add(one);
                }
            }
            return found;
        }

        int count(String fact) {
            int found = 0;
            for (String one : all) {
                if (one.contains(fact)) {
                    found++;
                }
            }
            return found;
        }
    }

    private static final class Text {
        int author;
        int kind;
        int reply;
        Set<Integer> named = new TreeSet<>();
        Set<Integer> went = new TreeSet<>();
        Set<Integer> sentOn = new TreeSet<>();
    }

    private static final String[] KINDS = {"FOLLOW", "ACCEPT", "REFUSE", "LEAVE", "BLOCK", "UNBLOCK", "ALIAS", "MOVE",
        "POST", "DELETE", "BOOST"};

    private final List<Integer> homes = new ArrayList<>();
    private final List<Text> texts = new ArrayList<>();
    private final List<List<Deed>> logs = new ArrayList<>();
    private final List<ArrayDeque<Deed>> waiting = new ArrayList<>();
    private final Deed[] last = new Deed[4];

    PlainVillage() {
        for (int i = 0; i < 4; i++) {
            logs.add(new ArrayList<>());
            waiting.add(new ArrayDeque<>());
        }
    }

    private Facts facts(int server) {
        Facts f = new Facts();
        for (Deed d : logs.get(server)) {
            f.learn(d);
        }
        return f;
    }

    private Facts own(int person) {
        return facts(homes.get(person));
    }

    private boolean none(int... people) {
        for (int p : people) {
            if (p < 0 || p >= homes.size()) {
                return true;
            }
        }
        return false;
    }

    private boolean noServer(int server) {
        return server < 0 || server > 3;
    }

    private boolean noPost(int post) {
        return post < 0 || post >= texts.size();
    }

    private static Deed deed(String kind, int who, int whom, int post) {
        Deed d = new Deed();
        d.kind = kind;
        d.who = who;
        d.whom = whom;
        d.post = post;
        return d;
    }

    private Set<Integer> at(Set<Integer> people) {
        Set<Integer> found = new TreeSet<>();
        for (int p : people) {
            found.add(homes.get(p));
        }
        return found;
    }

    private void act(Deed d, Set<Integer> servers) {
        int from = homes.get(d.who);
        logs.get(from).add(d);
        for (int server : servers) {
            if (server != from) {
                waiting.get(server).add(d);
            }
        }
    }

    private void act(Deed d, int whom) {
        act(d, at(Set.of(whom)));
    }

    String person(int server) {
        if (noServer(server)) {
            return Checks.BOUNDS;
        }
        if (homes.size() == 10) {
            return Checks.STATE;
        }
        homes.add(server);
        return "" + (homes.size() - 1);
    }

    String follow(int a, int b) {
        if (none(a, b)) {
            return Checks.BOUNDS;
        }
        if (a == b) {
            return Checks.ARGUMENT;
        }
        Facts f = own(a);
        if (f.is(a, " asks ", b) || f.is(a, " follows ", b) || f.blocked(a, b)) {
            return Checks.STATE;
        }
        act(deed("FOLLOW", a, b, -1), b);
        return "ok";
    }

    String answer(int a, int b, boolean accepted) {
        if (none(a, b)) {
            return Checks.BOUNDS;
        }
        if (!own(a).is(b, " asks ", a)) {
            return Checks.STATE;
        }
        act(deed(accepted ? "ACCEPT" : "REFUSE", a, b, -1), b);
        return "ok";
    }

    /** Whether answer would be refused, asked without doing it. */
    boolean answerIsRefused(int a, int b) {
        return none(a, b) || !own(a).is(b, " asks ", a);
    }

    String leave(int a, int b) {
        if (none(a, b)) {
            return Checks.BOUNDS;
        }
        Facts f = own(a);
        if (!f.is(a, " asks ", b) && !f.is(a, " follows ", b)) {
            return Checks.STATE;
        }
        act(deed("LEAVE", a, b, -1), b);
        return "ok";
    }

    String block(int a, int b, boolean blocked) {
        if (none(a, b)) {
            return Checks.BOUNDS;
        }
        if (a == b) {
            return Checks.ARGUMENT;
        }
        if (own(a).is(a, " blocks ", b) == blocked) {
            return Checks.STATE;
        }
        act(deed(blocked ? "BLOCK" : "UNBLOCK", a, b, -1), b);
        return "ok";
    }

    String alias(int a, int b) {
        if (none(a, b)) {
            return Checks.BOUNDS;
        }
        if (a == b) {
            return Checks.ARGUMENT;
        }
        act(deed("ALIAS", a, b, -1), b);
        return "ok";
    }

    String move(int a, int b) {
        if (none(a, b)) {
            return Checks.BOUNDS;
        }
        Facts f = own(a);
        if (f.aliases.getOrDefault(b, -1) != a) {
            return Checks.STATE;
        }
        Deed d = deed("MOVE", a, b, -1);
        d.told = f.followers(a);
        Set<Integer> to = at(d.told);
        to.add(homes.get(b));
        act(d, to);
        return "" + d.told.size();
    }

    String post(int a, int kind, int named, int reply) {
        if (none(a) || reply != -1 && noPost(reply)) {
            return Checks.BOUNDS;
        }
        if (kind < 0 || kind > 2 || named < 0 || named >= 1 << homes.size()) {
            return Checks.ARGUMENT;
        }
        if (texts.size() == 50 || reply != -1 && !look(own(a), a, reply)) {
            return Checks.STATE;
        }
        Text t = new Text();
        t.author = a;
        t.kind = kind;
        t.reply = reply;
        for (int p = 0; p < 10; p++) {
            if ((named >> p) % 2 == 1) {
                t.named.add(p);
            }
        }
        Set<Integer> people = new TreeSet<>(t.named);
        if (kind != 2) {
            people.addAll(own(a).followers(a));
        }
        if (reply != -1) {
            people.add(texts.get(reply).author);
        }
        texts.add(t);
        t.went = at(people);
        t.went.remove(homes.get(a));
        Deed d = deed("POST", a, -1, texts.size() - 1);
        act(d, t.went);
        sendOn(d, homes.get(a));
        return "" + (texts.size() - 1);
    }

    /** After an act was done at a server for the first time. */
    private void sendOn(Deed d, int server) {
        if (d.post == -1) {
            return;
        }
        Text t = texts.get(d.post);
        if (t.kind != 0 || t.reply == -1) {
            return;
        }
        int host = texts.get(t.reply).author;
        if (homes.get(host) != server) {
            return;
        }
        if (d.kind.equals("POST")) {
            t.sentOn = at(facts(server).followers(host));
            t.sentOn.remove(server);
            t.sentOn.remove(homes.get(t.author));
            if (homes.get(t.author) == server) {
                t.sentOn.removeAll(t.went);
            }
        }
        if (d.kind.equals("POST") || d.kind.equals("DELETE") && server != homes.get(t.author)) {
            for (int to : t.sentOn) {
                waiting.get(to).add(d);
            }
        }
    }

    String delete(int post) {
        if (noPost(post)) {
            return Checks.BOUNDS;
        }
        Text t = texts.get(post);
        if (own(t.author).marks.contains(post)) {
            return Checks.STATE;
        }
        Set<Integer> to = new TreeSet<>(t.went);
        if (t.reply != -1 && homes.get(texts.get(t.reply).author).equals(homes.get(t.author))) {
            to.addAll(t.sentOn);
        }
        act(deed("DELETE", t.author, -1, post), to);
        return "" + to.size();
    }

    String boost(int a, int post) {
        if (none(a) || noPost(post)) {
            return Checks.BOUNDS;
        }
        Facts f = own(a);
        if (!look(f, a, post) || texts.get(post).kind != 0 || f.is(a, " boosted ", post)) {
            return Checks.STATE;
        }
        Set<Integer> people = f.followers(a);
        people.add(texts.get(post).author);
        act(deed("BOOST", a, -1, post), at(people));
        return "ok";
    }

    String deliver(int server) {
        if (noServer(server)) {
            return Checks.BOUNDS;
        }
        if (waiting.get(server).isEmpty()) {
            return "-1";
        }
        last[server] = waiting.get(server).remove();
        return receive(server);
    }

    String repeat(int server) {
        if (noServer(server)) {
            return Checks.BOUNDS;
        }
        return last[server] == null ? "-1" : receive(server);
    }

    private String receive(int server) {
        Deed d = last[server];
        if (!logs.get(server).contains(d)) {
            logs.get(server).add(d);
            sendOn(d, server);
        }
        return "" + List.of(KINDS).indexOf(d.kind);
    }

    String ofServer(int server, int what) {
        if (noServer(server)) {
            return Checks.BOUNDS;
        }
        Facts f = facts(server);
        Set<Integer> known = new TreeSet<>(f.come);
        known.removeAll(f.marks);
        return switch (what) {
            case 0 -> "" + waiting.get(server).size();
            case 1 -> "" + logs.get(server).size();
            case 2 -> "" + known.size();
            case 3 -> "" + f.marks.size();
            case 4 -> "" + f.count(" follows ");
            case 5 -> "" + f.count(" asks ");
            default -> Checks.ARGUMENT;
        };
    }

    String between(int server, int a, int b) {
        if (noServer(server) || none(a, b)) {
            return Checks.BOUNDS;
        }
        Facts f = facts(server);
        int found = f.is(a, " follows ", b) ? 2 : f.is(a, " asks ", b) ? 1 : 0;
        return "" + (found + (f.is(a, " blocks ", b) ? 4 : 0));
    }

    private boolean look(Facts f, int a, int post) {
        Text t = texts.get(post);
        boolean known = f.come.contains(post) && !f.marks.contains(post);
        boolean meant = t.author == a || t.named.contains(a) || t.kind == 0 || t.kind == 1 && f.is(a, " follows ", t.author);
        return known && meant && !f.blocked(a, t.author);
    }

    String sees(int a, int post) {
        return none(a) || noPost(post) ? Checks.BOUNDS : look(own(a), a, post) ? "1" : "0";
    }

    String home(int a, int place) {
        if (none(a) || place < 0) {
            return Checks.BOUNDS;
        }
        Facts f = own(a);
        List<Integer> found = new ArrayList<>();
        for (int post = texts.size() - 1; post >= 0; post--) {
            Text t = texts.get(post);
            boolean boosted = false;
            for (int b = 0; b < 10; b++) {
                boosted |= f.is(a, " follows ", b) && f.is(b, " boosted ", post);
            }
            boolean meant = t.author == a || t.named.contains(a) || f.is(a, " follows ", t.author) || boosted;
            if (meant && look(f, a, post)) {
                found.add(post);
            }
        }
        return place < found.size() ? "" + found.get(place) : "-1";
    }
}
