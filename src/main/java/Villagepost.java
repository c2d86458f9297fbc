import java.util.ArrayList;

/**
 * A village of servers that tell one another about follows, blocks, moves, posts and boosts.
 * What a server knows is what was done there; it is kept in a log, from which it can be found again.
 */
public final class Villagepost {
    public static final int NONE = -1;
    public static final int PUBLIC = 0, FOLLOWERS = 1, DIRECT = 2;
    public static final int FOLLOW = 0, ACCEPT = 1, REFUSE = 2, LEAVE = 3, BLOCK = 4, UNBLOCK = 5, ALIAS = 6, MOVE = 7, POST = 8, DELETE = 9, BOOST = 10;

    private static final int SERVERS = 4;
    private static final int PEOPLE = 10;
    private static final int POSTS = 50;
    // An act takes a call of its own, and an object is used for 512 calls.
    private static final int ACTS = 512;

    private static final int WAITING = 0;
    private static final int DONE = 1;
    private static final int KNOWN = 2;
    private static final int MARKED = 3;
    private static final int FOLLOWS = 4;
    private static final int ASKS = 5;

    private final Server[] servers = {new Server(), new Server(), new Server(), new Server()};
    private final int[] homes = new int[PEOPLE];
    private final ArrayList<Note> notes = new ArrayList<Note>();
    // Filled from a log at each call of seesAnew, and kept so that no call makes a new one.
    private final Knowledge anew = new Knowledge();
    private int people = 0;
    private int acts = 0;

    /** No people, no packets. */
    public Villagepost() {
    }

    /** Somebody comes to a server; returns their number. */
    public int person(int server) throws IndexOutOfBoundsException, IllegalStateException {
        requireServer(server);
        if (people >= PEOPLE) {
            throw new IllegalStateException("there are 10 people");
        }
        homes[people] = server;
        people++;
        return people - 1;
    }

    /** One asks to follow the other. */
    public void follow(int person, int other) throws IndexOutOfBoundsException, IllegalArgumentException, IllegalStateException {
        requireTwo(person, other);
        requireDifferent(person, other);
        Knowledge known = atHomeOf(person);
        if (known.isAsking(person, other) || known.isFollowing(person, other) || known.isBlockBetween(person, other)) {
            throw new IllegalStateException("asked, followed or blocked already");
        }
        perform(new Act(acts, FOLLOW, person, other, 0), homeOf(other));
    }

    /** One accepts or refuses the ask of the other. */
    public void answer(int person, int other, boolean accepted) throws IndexOutOfBoundsException, IllegalStateException {
        requireTwo(person, other);
        if (!atHomeOf(person).isAsking(other, person)) {
            throw new IllegalStateException("the other one does not ask");
        }
        perform(new Act(acts, accepted ? ACCEPT : REFUSE, person, other, 0), homeOf(other));
    }

    /** One takes back an ask or a follow. */
    public void leave(int person, int other) throws IndexOutOfBoundsException, IllegalStateException {
        requireTwo(person, other);
        Knowledge known = atHomeOf(person);
        if (!known.isAsking(person, other) && !known.isFollowing(person, other)) {
            throw new IllegalStateException("neither asked nor followed");
        }
        perform(new Act(acts, LEAVE, person, other, 0), homeOf(other));
    }

    /** One blocks the other, or takes that block away. */
    public void block(int person, int other, boolean blocked) throws IndexOutOfBoundsException, IllegalArgumentException, IllegalStateException {
        requireTwo(person, other);
        requireDifferent(person, other);
        if (atHomeOf(person).isBlocking(person, other) == blocked) {
            throw new IllegalStateException("it is so already");
        }
        perform(new Act(acts, blocked ? BLOCK : UNBLOCK, person, other, 0), homeOf(other));
    }

    /** One says that they were the other, in place of whom they named before. */
    public void alias(int person, int other) throws IndexOutOfBoundsException, IllegalArgumentException {
        requireTwo(person, other);
        requireDifferent(person, other);
        perform(new Act(acts, ALIAS, person, other, 0), homeOf(other));
    }

    /** One moves to the other with all followers; returns how many are told. */
    public int move(int person, int other) throws IndexOutOfBoundsException, IllegalStateException {
        requireTwo(person, other);
        Knowledge known = atHomeOf(person);
        if (!known.isAlias(other, person)) {
            throw new IllegalStateException("the other one has no such alias");
        }
        int told = known.followersOf(person);
        perform(new Act(acts, MOVE, person, other, told), homesOf(told) | homeOf(other));
        return Integer.bitCount(told);
    }

    /** One writes a post; returns its number. */
    public int post(int person, int kind, int named, int reply) throws IndexOutOfBoundsException, IllegalArgumentException, IllegalStateException {
        requirePerson(person);
        if (reply != NONE) {
            requirePost(reply);
        }
        if (kind < PUBLIC || kind > DIRECT || named < 0 || named >> people != 0) {
            throw new IllegalArgumentException("no such kind, or no such person named");
        }
        if (notes.size() >= POSTS) {
            throw new IllegalStateException("there are 50 posts");
        }
        Knowledge known = atHomeOf(person);
        if (reply != NONE && !known.isSeenBy(person, reply, notes.get(reply))) {
            throw new IllegalStateException("the post to reply to is not seen");
        }
        int thread = reply == NONE ? NONE : notes.get(reply).author;
        int to = homesOf(named);
        if (kind != DIRECT) {
            to |= homesOf(known.followersOf(person));
        }
        if (thread != NONE) {
            to |= homeOf(thread);
        }
        int number = notes.size();
        Note note = new Note(person, kind, named, thread, to & ~homeOf(person));
        notes.add(note);
        perform(new Act(acts, POST, person, number, 0), note.went);
        return number;
    }

    /** The author of a post deletes it; returns to how many servers that goes. */
    public int delete(int post) throws IndexOutOfBoundsException, IllegalStateException {
        requirePost(post);
        Note note = notes.get(post);
        if (atHomeOf(note.author).isMarked(post)) {
            throw new IllegalStateException("it is deleted already");
        }
        perform(new Act(acts, DELETE, note.author, post, 0), note.went);
        return Integer.bitCount(note.went);
    }

    /** One sends a public post on to their followers. */
    public void boost(int person, int post) throws IndexOutOfBoundsException, IllegalStateException {
        requirePerson(person);
        requirePost(post);
        Note note = notes.get(post);
        Knowledge known = atHomeOf(person);
        if (note.kind != PUBLIC || !known.isSeenBy(person, post, note) || known.isBoosting(person, post)) {
            throw new IllegalStateException("not seen, not public or boosted already");
        }
        int to = homesOf(known.followersOf(person)) | homeOf(note.author);
        perform(new Act(acts, BOOST, person, post, 0), to);
    }

    // ---- packets

    /** Delivers the next packet to a server; returns what act it holds, or NONE. */
    public int deliver(int server) throws IndexOutOfBoundsException {
        requireServer(server);
        Server place = servers[server];
        if (place.waiting() <= 0) {
            return NONE;
        }
        Act act = place.packets.get(place.delivered);
        place.delivered++;
        doAt(server, act);
        return act.kind;
    }

    /** Delivers the last packet to a server once more; returns what act it holds, or NONE. */
    public int repeat(int server) throws IndexOutOfBoundsException {
        requireServer(server);
        Server place = servers[server];
        if (place.delivered <= 0) {
            return NONE;
        }
        Act act = place.packets.get(place.delivered - 1);
        doAt(server, act);
        return act.kind;
    }

    // ---- asking

    /** Returns a number of a server: waiting packets, acts, known posts, marks, follows or asks. */
    public int ofServer(int server, int what) throws IndexOutOfBoundsException, IllegalArgumentException {
        requireServer(server);
        Server place = servers[server];
        switch (what) {
            case WAITING:
                return place.waiting();
            case DONE:
                return place.log.size();
            case KNOWN:
                return place.knowledge.countKnown();
            case MARKED:
                return place.knowledge.countMarked();
            case FOLLOWS:
                return place.knowledge.countFollows();
            case ASKS:
                return place.knowledge.countAsks();
            default:
                throw new IllegalArgumentException("no such number of a server");
        }
    }

    /** Tells what a server knows between two: 1 asks or 2 follows, and 4 blocks. */
    public int between(int server, int person, int other) throws IndexOutOfBoundsException {
        requireServer(server);
        requireTwo(person, other);
        Knowledge known = servers[server].knowledge;
        int found = 0;
        if (known.isAsking(person, other)) {
            found += 1;
        }
        if (known.isFollowing(person, other)) {
            found += 2;
        }
        if (known.isBlocking(person, other)) {
            found += 4;
        }
        return found;
    }

    /** Tells whether somebody sees a post. */
    public boolean sees(int person, int post) throws IndexOutOfBoundsException {
        requirePerson(person);
        requirePost(post);
        return atHomeOf(person).isSeenBy(person, post, notes.get(post));
    }

    /** Tells the same from the log of their server alone. */
    public boolean seesAnew(int person, int post) throws IndexOutOfBoundsException {
        requirePerson(person);
        requirePost(post);
        ArrayList<Act> log = servers[homes[person]].log;
        anew.forget();
        for (int i = 0; i < log.size(); i++) {
            anew.learn(log.get(i));
        }
        return anew.isSeenBy(person, post, notes.get(post));
    }

    /** Returns the post at a place of somebody's home, or NONE. */
    public int home(int person, int place) throws IndexOutOfBoundsException {
        requirePerson(person);
        if (place < 0) {
            throw new IndexOutOfBoundsException("no place below 0");
        }
        Knowledge known = atHomeOf(person);
        int before = 0;
        for (int number = notes.size() - 1; number >= 0; number--) {
            if (known.isAtHomeOf(person, number, notes.get(number))) {
                if (before == place) {
                    return number;
                }
                before++;
            }
        }
        return NONE;
    }

    // ---- what arguments must be

    private static void requireServer(int server) {
        if (server < 0 || server >= SERVERS) {
            throw new IndexOutOfBoundsException("no such server");
        }
    }

    private void requirePerson(int person) {
        if (person < 0 || person >= people) {
            throw new IndexOutOfBoundsException("no such person");
        }
    }

    private void requireTwo(int person, int other) {
        requirePerson(person);
        requirePerson(other);
    }

    private static void requireDifferent(int person, int other) {
        if (person == other) {
            throw new IllegalArgumentException("both are one");
        }
    }

    private void requirePost(int post) {
        if (post < 0 || post >= notes.size()) {
            throw new IndexOutOfBoundsException("no such post");
        }
    }

    // ---- acts

    /** Does an act of somebody at their server, and sends it from there. */
    private void perform(Act act, int to) {
        // What calls after the 512th do is free: an act beyond them is not kept.
        if (acts >= ACTS) {
            return;
        }
        acts++;
        send(act, to & ~homeOf(act.person));
        doAt(homes[act.person], act);
    }

    /** Does an act at a server, unless it was done there already. */
    private void doAt(int server, Act act) {
        Server place = servers[server];
        if (place.done[act.number]) {
            return;
        }
        place.done[act.number] = true;
        place.log.add(act);
        place.knowledge.learn(act);
        sendOn(server, act);
    }

    /** The server of a thread sends on a public reply, and its mark to the same servers. */
    private void sendOn(int server, Act act) {
        if (act.kind != POST && act.kind != DELETE) {
            return;
        }
        Note note = notes.get(act.about);
        if (note.kind != PUBLIC || note.thread == NONE || homes[note.thread] != server) {
            return;
        }
        if (act.kind == POST) {
            sendReplyOn(server, act, note);
        } else {
            send(act, note.sentOn);
        }
    }

    private void sendReplyOn(int server, Act act, Note note) {
        int followers = servers[server].knowledge.followersOf(note.thread);
        int to = homesOf(followers) & ~bit(server) & ~homeOf(note.author);
        if (homes[note.author] == server) {
            // A server goes by what it sends itself: only what went from here leaves a server out.
            to &= ~note.went;
            note.went |= to;
        } else {
            note.sentOn = to;
        }
        send(act, to);
    }

    private void send(Act act, int to) {
        for (int server = 0; server < SERVERS; server++) {
            if (has(to, server)) {
                servers[server].packets.add(act);
            }
        }
    }

    // ---- homes, and sets of small numbers as bits

    private Knowledge atHomeOf(int person) {
        return servers[homes[person]].knowledge;
    }

    private int homeOf(int person) {
        return bit(homes[person]);
    }

    private int homesOf(int set) {
        int found = 0;
        for (int person = 0; person < people; person++) {
            if (has(set, person)) {
                found |= homeOf(person);
            }
        }
        return found;
    }

    private static int bit(int number) {
        return 1 << number;
    }

    private static boolean has(int set, int number) {
        return (set >> number & 1) != 0;
    }

    private static boolean hasPost(long set, int post) {
        return (set >> post & 1) != 0;
    }

    /** Something that somebody has done. */
    private static final class Act {
        final int number;
        final int kind;
        final int person;
        // The other person, or the post.
        final int about;
        // The followers that a MOVE takes along.
        final int told;

        Act(int number, int kind, int person, int about, int told) {
            this.number = number;
            this.kind = kind;
            this.person = person;
            this.about = about;
            this.told = told;
        }
    }

    /** What a post says, and where it was sent. */
    private static final class Note {
        final int author;
        final int kind;
        final int named;
        // The author of the post to which it is a reply, or NONE.
        final int thread;
        // The servers to which it went from its author's, sent on from there or not.
        int went;
        // The servers to which it was sent on from another one.
        int sentOn = 0;

        Note(int author, int kind, int named, int thread, int went) {
            this.author = author;
            this.kind = kind;
            this.named = named;
            this.thread = thread;
            this.went = went;
        }
    }

    /** A server: its packets, its log, and what it knows from that. */
    private static final class Server {
        final Knowledge knowledge = new Knowledge();
        final ArrayList<Act> log = new ArrayList<Act>();
        final ArrayList<Act> packets = new ArrayList<Act>();
        final boolean[] done = new boolean[ACTS];
        int delivered = 0;

        int waiting() {
            return packets.size() - delivered;
        }
    }

    /** What is known from acts that were done one after the other. */
    private static final class Knowledge {
        // For each person, the set of others whom they ask, follow, block, or have as an alias.
        private final int[] asks = new int[PEOPLE];
        private final int[] follows = new int[PEOPLE];
        private final int[] blocks = new int[PEOPLE];
        private final int[] aliases = new int[PEOPLE];
        // For each person, the set of posts that they have boosted.
        private final long[] boosts = new long[PEOPLE];
        // Posts that came here, deleted or not.
        private long arrived = 0;
        private long marked = 0;

        void forget() {
            for (int person = 0; person < PEOPLE; person++) {
                asks[person] = 0;
                follows[person] = 0;
                blocks[person] = 0;
                aliases[person] = 0;
                boosts[person] = 0;
            }
            arrived = 0;
            marked = 0;
        }

        void learn(Act act) {
            switch (act.kind) {
                case FOLLOW:
                    learnFollow(act.person, act.about);
                    break;
                case ACCEPT:
                    learnAccept(act.person, act.about);
                    break;
                case REFUSE:
                    asks[act.about] &= ~bit(act.person);
                    break;
                case LEAVE:
                    part(act.person, act.about);
                    break;
                case BLOCK:
                    part(act.person, act.about);
                    part(act.about, act.person);
                    blocks[act.person] |= bit(act.about);
                    break;
                case UNBLOCK:
                    blocks[act.person] &= ~bit(act.about);
                    break;
                case ALIAS:
                    aliases[act.person] = bit(act.about);
                    break;
                case MOVE:
                    learnMove(act.person, act.about, act.told);
                    break;
                case POST:
                    arrived |= 1L << act.about;
                    break;
                case DELETE:
                    marked |= 1L << act.about;
                    break;
                case BOOST:
                    arrived |= 1L << act.about;
                    boosts[act.person] |= 1L << act.about;
                    break;
                default:
                    break;
            }
        }

        private void learnFollow(int person, int other) {
            if (!isFollowing(person, other) && !isBlockBetween(person, other)) {
                asks[person] |= bit(other);
            }
        }

        // A block needs no look here: while it is known, there is no ask.
        private void learnAccept(int person, int asker) {
            if (isAsking(asker, person)) {
                startFollowing(asker, person);
            }
        }

        private void learnMove(int old, int other, int told) {
            for (int person = 0; person < PEOPLE; person++) {
                if (has(told, person)) {
                    follows[person] &= ~bit(old);
                    if (person != other && !isBlockBetween(person, other)) {
                        startFollowing(person, other);
                    }
                }
            }
        }

        private void startFollowing(int person, int other) {
            asks[person] &= ~bit(other);
            follows[person] |= bit(other);
        }

        private void part(int person, int other) {
            asks[person] &= ~bit(other);
            follows[person] &= ~bit(other);
        }

        boolean isAsking(int person, int other) {
            return has(asks[person], other);
        }

        boolean isFollowing(int person, int other) {
            return has(follows[person], other);
        }

        boolean isBlocking(int person, int other) {
            return has(blocks[person], other);
        }

        boolean isBlockBetween(int person, int other) {
            return has(blocks[person], other) || has(blocks[other], person);
        }

        boolean isAlias(int person, int other) {
            return has(aliases[person], other);
        }

        boolean isBoosting(int person, int post) {
            return hasPost(boosts[person], post);
        }

        boolean isMarked(int post) {
            return hasPost(marked, post);
        }

        int followersOf(int person) {
            int found = 0;
            for (int other = 0; other < PEOPLE; other++) {
                if (isFollowing(other, person)) {
                    found |= bit(other);
                }
            }
            return found;
        }

        boolean isSeenBy(int person, int post, Note note) {
            if (!hasPost(arrived & ~marked, post) || isBlockBetween(person, note.author)) {
                return false;
            }
            return note.author == person
                || has(note.named, person)
                || note.kind == PUBLIC
                || note.kind == FOLLOWERS && isFollowing(person, note.author);
        }

        boolean isAtHomeOf(int person, int post, Note note) {
            if (!isSeenBy(person, post, note)) {
                return false;
            }
            return note.author == person
                || has(note.named, person)
                || isFollowing(person, note.author)
                || isBoostedFor(person, post);
        }

        private boolean isBoostedFor(int person, int post) {
            for (int other = 0; other < PEOPLE; other++) {
                if (isFollowing(person, other) && isBoosting(other, post)) {
                    return true;
                }
            }
            return false;
        }

        int countKnown() {
            return Long.bitCount(arrived & ~marked);
        }

        int countMarked() {
            return Long.bitCount(marked);
        }

        int countFollows() {
            return sizeOf(follows);
        }

        int countAsks() {
            return sizeOf(asks);
        }

        private static int sizeOf(int[] sets) {
            int size = 0;
            for (int i = 0; i < sets.length; i++) {
                size += Integer.bitCount(sets[i]);
            }
            return size;
        }
    }
}
