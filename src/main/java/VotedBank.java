import java.util.Arrays;

/** A river of which one side alone is settled: the far bank is voted on arrival, by shells. */
public final class VotedBank {

    public static final int NONE = -1;

    private static final int MOST_PASSENGERS = 12;
    private static final int LANDS = 6;
    private static final int MOST_LINES = 16;
    private static final int MOST_SEEN = 20;
    private static final int NO_LEAD = NONE - 999;
    /** What the first land of a rank counts in its number. */
    private static final int FIRST = 10000;

    private static final int LAW = 0;
    private static final int EARS = 1;
    private static final int LOG = 2;
    private static final int SEASONS = 3;

    /** Every rank of lands, the least first. */
    private static final int[] RANKS = {
        12345, 12354, 12435, 12453, 12534, 12543, 13245, 13254, 13425, 13452, 13524, 13542,
        14235, 14253, 14325, 14352, 14523, 14532, 15234, 15243, 15324, 15342, 15423, 15432,
        21345, 21354, 21435, 21453, 21534, 21543, 23145, 23154, 23415, 23451, 23514, 23541,
        24135, 24153, 24315, 24351, 24513, 24531, 25134, 25143, 25314, 25341, 25413, 25431,
        31245, 31254, 31425, 31452, 31524, 31542, 32145, 32154, 32415, 32451, 32514, 32541,
        34125, 34152, 34215, 34251, 34512, 34521, 35124, 35142, 35214, 35241, 35412, 35421,
        41235, 41253, 41325, 41352, 41523, 41532, 42135, 42153, 42315, 42351, 42513, 42531,
        43125, 43152, 43215, 43251, 43512, 43521, 45123, 45132, 45213, 45231, 45312, 45321,
        51234, 51243, 51324, 51342, 51423, 51432, 52134, 52143, 52314, 52341, 52413, 52431,
        53124, 53142, 53214, 53241, 53412, 53421, 54123, 54132, 54213, 54231, 54312, 54321,
    };

    private final World world;
    private final World kept;
    private final Past past;
    private final Tape tape;
    private final Parser parser;
    private final Crossing crossing;
    private final Poll poll;
    private boolean imageTaken;

    public VotedBank() {
        world = new World();
        kept = new World();
        past = new Past();
        tape = new Tape();
        parser = new Parser(tape);
        crossing = new Crossing(world);
        poll = new Poll(world);
    }

    public int state(int v) {
        int was = world.river.state;
        world.river.state = v;
        past.forget();
        return was;
    }

    public int passenger(int rank, boolean child, int talk, int firm) {
        River river = world.river;
        if (!isRank(rank) || !isDigit(talk) || !isDigit(firm) || river.count >= MOST_PASSENGERS) {
            return NONE;
        }
        past.forget();
        return river.board(rank, child ? 1 : 0, talk, firm);
    }

    public boolean set(int what, int who, int v) {
        boolean done = what <= 2 ? world.river.tell(what, v) : world.river.tellOf(what, who, v);
        if (done) {
            past.forget();
        }
        return done;
    }

    public int cross(int set) {
        if (!world.river.canRow(set)) {
            return NONE;
        }
        past.keep(world);
        return crossing.sail(set);
    }

    public boolean stay(int passenger, boolean is) {
        River river = world.river;
        if (!river.has(passenger) || river.isOver(passenger) == is) {
            return false;
        }
        past.keep(world);
        if (is) {
            world.leaveOver(1 << passenger);
        } else {
            river.over &= ~(1 << passenger);
        }
        return true;
    }

    public int log() {
        past.keep(world);
        int crossings = 0;
        for (int i = 0; i < world.texts.lines[LOG]; i++) {
            int rowing = world.texts.rows[i] & world.river.notOver();
            if (rowing != 0) {
                crossing.sail(rowing);
                crossings++;
            }
            world.leaveOver(world.texts.stays[i]);
        }
        return crossings;
    }

    public int feed(int a, int b, int c, int d, int e) {
        if (!tape.hasRoom()) {
            return NONE;
        }
        tape.put(a);
        tape.put(b);
        tape.put(c);
        tape.put(d);
        tape.put(e);
        return tape.size;
    }

    public boolean end(int n) {
        if (n < 0 || n > tape.size) {
            return false;
        }
        tape.size = n;
        return true;
    }

    public int text(int k) {
        int lines = parser.read(k, world.river.everyone());
        tape.size = 0;
        if (lines == NONE) {
            return NONE;
        }
        world.texts.take(k, parser.draft);
        if (k == EARS || k == LOG) {
            past.forget();
        }
        return lines;
    }

    public int fault(int what) {
        return what == 0 ? parser.blame : what == 1 ? parser.blamePlace : NONE;
    }

    public int of(int passenger, int what) {
        River river = world.river;
        if (!river.has(passenger)) {
            return NONE;
        }
        switch (what) {
            case 7: return world.texts.hears[passenger];
            case 8: return poll.told(Law.SHELLS, passenger, river.talk[passenger]);
            case 9: return poll.told(Law.ABSTAIN, passenger, river.talk[passenger]);
            default: return river.trait(passenger, what);
        }
    }

    public int sway(int a, int b) {
        River river = world.river;
        if (!river.has(a) || !river.has(b)) {
            return NONE;
        }
        return poll.told(Law.SWAY, a, river.talk[b]);
    }

    public int season(int land, int what) {
        Texts texts = world.texts;
        if (land < 0 || land >= LANDS || texts.behind[land] == 0) {
            return NONE;
        }
        return what == 0 ? texts.behind[land] : what == 1 ? texts.becomes[land] : NONE;
    }

    public int book(int i, int what) {
        return world.book.entry(i, what);
    }

    public int would(int set, int what) {
        if (!world.river.canRow(set) || what < 0 || what > 2) {
            return NONE;
        }
        int land = crossing.imagine(set);
        if (what == 0) {
            return land;
        }
        return what == 1 ? crossing.laid[land] : crossing.turnings;
    }

    public int makes(int land, int what) {
        if (!isLand(land) || what < 0 || what > 1) {
            return NONE;
        }
        poll.askAll();
        int maker = poll.firstMaker(land);
        if (maker == NONE) {
            return NONE;
        }
        return what == 0 ? 1 : 1 << maker;
    }

    public int pivots(int passenger) {
        if (!world.river.has(passenger) || world.river.isOver(passenger)) {
            return NONE;
        }
        poll.askAll();
        return poll.timesTurned(passenger);
    }

    public int beats(int a, int b) {
        if (!isLand(a) || !isLand(b) || a == b) {
            return NO_LEAD;
        }
        poll.askAll();
        poll.compareByShells();
        return poll.lead(a, b);
    }

    public int wins(int what) {
        poll.askAll();
        if (what == 1) {
            return poll.lastLeft();
        }
        if (what > 10 && isLand(what - 10)) {
            return poll.points(what - 10);
        }
        poll.compareByShells();
        if (what == 0) {
            return poll.champion();
        }
        return what > 20 && isLand(what - 20) ? poll.orderFor(what - 20) : NONE;
    }

    public int boats(int c, int what) {
        if (c < 1 || c > MOST_PASSENGERS) {
            return NONE;
        }
        return what == 0 ? poll.boatsNeeded(c) : what == 1 ? poll.crossingsNeeded(c) : NONE;
    }

    public int reaches(int passenger) {
        return world.river.has(passenger) ? world.texts.reachedBy(passenger) : NONE;
    }

    public int alike(int a, int b) {
        River river = world.river;
        if (!river.has(a)) {
            return NONE;
        }
        if (b == NONE) {
            return river.nearestTo(a);
        }
        return river.has(b) ? otherwise(river.rank[a], river.rank[b]) : NONE;
    }

    public int middle(int what) {
        if (what < 0 || what > 1) {
            return NONE;
        }
        poll.compareByHeads();
        return poll.nearestRank(what);
    }

    public int seen(int land) {
        return world.see(land);
    }

    public int began(int what) {
        if (what < 0 || what > 1) {
            return NONE;
        }
        return world.beginnings(what);
    }

    public boolean bribe(int passenger, int v) {
        if (passenger < 0 || passenger >= MOST_PASSENGERS || v < 0 || v > 99) {
            return false;
        }
        world.bribes[passenger] = v;
        return true;
    }

    public int costs(int land, int what) {
        if (!isLand(land) || what < 0 || what > 1) {
            return NONE;
        }
        poll.askAll();
        poll.findCheapest(land);
        return what == 0 ? poll.cheapest : poll.cheapestSet;
    }

    public int game(int what) {
        if (what < 0 || what > 1) {
            return NONE;
        }
        poll.askAll();
        return poll.goodMove(what);
    }

    public boolean undo() {
        return past.goBack(world);
    }

    public boolean image(boolean taken) {
        if (taken) {
            kept.copyFrom(world);
            imageTaken = true;
        } else if (imageTaken) {
            world.copyFrom(kept);
            past.forget();
        }
        return imageTaken;
    }

    public int look(int what) {
        River river = world.river;
        switch (what) {
            case 0: return river.count;
            case 1: return river.bank;
            case 2: return river.age;
            case 3: return river.stream;
            case 4: return river.minute;
            case 5: return river.crossed;
            case 6: return river.over;
            case 7: return world.book.count;
            case 8: return river.state;
            case 9: return world.texts.lines[LAW];
            case 10: return world.texts.lines[EARS];
            case 11: return world.texts.lines[LOG];
            case 12: return world.texts.lines[SEASONS];
            case 13: return world.seenCount;
            case 14: return past.count;
            default: return NONE;
        }
    }

    private static boolean isLand(int land) {
        return land >= 1 && land < LANDS;
    }

    private static boolean isDigit(int v) {
        return v >= 0 && v <= 9;
    }

    private static boolean isRank(int rank) {
        if (rank < 12345 || rank > 54321) {
            return false;
        }
        int met = 0;
        int rest = rank;
        for (int i = 0; i < 5; i++) {
            met |= 1 << (rest % 10);
            rest /= 10;
        }
        return met == 0b111110;
    }

    private static int firstOf(int rank) {
        return rank / FIRST;
    }

    /** The rank with one land put ahead of all, the others as they were. */
    private static int raised(int rank, int land) {
        int made = land;
        for (int unit = FIRST; unit >= 1; unit /= 10) {
            int next = rank / unit % 10;
            if (next != land) {
                made = made * 10 + next;
            }
        }
        return made;
    }

    private static boolean isAhead(int rank, int a, int b) {
        for (int unit = FIRST; unit >= 1; unit /= 10) {
            int next = rank / unit % 10;
            if (next == a || next == b) {
                return next == a;
            }
        }
        return false;
    }

    /** How many couples of lands two ranks have otherwise. */
    private static int otherwise(int rank, int other) {
        int couples = 0;
        for (int a = 1; a < LANDS; a++) {
            for (int b = a + 1; b < LANDS; b++) {
                if (isAhead(rank, a, b) != isAhead(other, a, b)) {
                    couples++;
                }
            }
        }
        return couples;
    }

    /** The land with most shells; mud where none has most alone. */
    private static int winnerOf(int[] laid) {
        int winner = 0;
        int most = 0;
        for (int land = 1; land < LANDS; land++) {
            if (laid[land] > most) {
                most = laid[land];
                winner = land;
            } else if (laid[land] == most) {
                winner = 0;
            }
        }
        return winner;
    }

    /** All that an image holds. */
    private static final class World {
        final River river = new River();
        final Book book = new Book();
        final Texts texts = new Texts();
        final int[] bribes = new int[MOST_PASSENGERS];
        final int[] seenLands = new int[MOST_SEEN];
        int seenCount;

        World() {
            Arrays.fill(bribes, 1);
        }

        void copyFrom(World other) {
            river.copyFrom(other.river);
            book.copyFrom(other.book);
            for (int k = LAW; k <= SEASONS; k++) {
                texts.take(k, other.texts);
            }
            System.arraycopy(other.bribes, 0, bribes, 0, MOST_PASSENGERS);
            System.arraycopy(other.seenLands, 0, seenLands, 0, MOST_SEEN);
            seenCount = other.seenCount;
        }

        /** Who is over already is passed by: one stays but once. */
        void leaveOver(int set) {
            for (int p = 0; p < river.count; p++) {
                if ((set >> p & 1) == 1 && !river.isOver(p)) {
                    river.over |= 1 << p;
                    book.write(river.crossed, Book.STAYED, p, 0);
                }
            }
        }

        int see(int land) {
            if (land == NONE) {
                seenCount = 0;
                return 0;
            }
            if (land < 0 || land >= LANDS || seenCount >= MOST_SEEN) {
                return NONE;
            }
            seenLands[seenCount] = land;
            seenCount++;
            return seenCount;
        }

        /** What 0 how many couples of land and age what was seen can have begun with, 1 the least. */
        int beginnings(int what) {
            int found = 0;
            int least = NONE;
            for (int land = 0; land < LANDS; land++) {
                for (int age = 0; age <= 98; age++) {
                    if (couldBegin(land, age)) {
                        found++;
                        least = least == NONE ? 100 * land + age : least;
                    }
                }
            }
            return what == 0 ? found : least;
        }

        private boolean couldBegin(int firstLand, int firstAge) {
            int land = firstLand;
            int age = firstAge;
            for (int i = 0; i < seenCount; i++) {
                if (i > 0) {
                    age++;
                    if (texts.turnsAt(land, age)) {
                        land = texts.becomes[land];
                        age = 0;
                    }
                }
                if (land != seenLands[i]) {
                    return false;
                }
            }
            return true;
        }
    }

    /** The passengers, the far bank and what is counted: all that an act changes beside the book. */
    private static final class River {
        static final int MOST_AGE = 999;
        static final int MOST_MINUTE = 99999;

        int state;
        int bank;
        int age;
        int stream;
        int minute;
        int crossed;
        int count;
        int over;
        final int[] rank = new int[MOST_PASSENGERS];
        final int[] child = new int[MOST_PASSENGERS];
        final int[] talk = new int[MOST_PASSENGERS];
        final int[] firm = new int[MOST_PASSENGERS];
        final int[] waded = new int[MOST_PASSENGERS];
        final int[] turned = new int[MOST_PASSENGERS];

        void copyFrom(River other) {
            state = other.state;
            bank = other.bank;
            age = other.age;
            stream = other.stream;
            minute = other.minute;
            crossed = other.crossed;
            count = other.count;
            over = other.over;
            System.arraycopy(other.rank, 0, rank, 0, MOST_PASSENGERS);
            System.arraycopy(other.child, 0, child, 0, MOST_PASSENGERS);
            System.arraycopy(other.talk, 0, talk, 0, MOST_PASSENGERS);
            System.arraycopy(other.firm, 0, firm, 0, MOST_PASSENGERS);
            System.arraycopy(other.waded, 0, waded, 0, MOST_PASSENGERS);
            System.arraycopy(other.turned, 0, turned, 0, MOST_PASSENGERS);
        }

        int board(int itsRank, int itsChild, int itsTalk, int itsFirm) {
            if (count >= MOST_PASSENGERS) {
                return NONE;
            }
            int p = count;
            rank[p] = itsRank;
            child[p] = itsChild;
            talk[p] = itsTalk;
            firm[p] = itsFirm;
            waded[p] = 0;
            turned[p] = 0;
            count++;
            return p;
        }

        boolean tell(int what, int v) {
            if (what == 0 && isDigit(v)) {
                stream = v;
            } else if (what == 1 && v >= 0 && v < LANDS) {
                bank = v;
            } else if (what == 2 && v >= 0 && v <= MOST_AGE) {
                age = v;
            } else {
                return false;
            }
            return true;
        }

        boolean tellOf(int what, int who, int v) {
            if (!has(who)) {
                return false;
            }
            if (what == 3 && isRank(v)) {
                rank[who] = v;
            } else if (what == 4 && isDigit(v)) {
                talk[who] = v;
            } else if (what == 5 && isDigit(v)) {
                firm[who] = v;
            } else {
                return false;
            }
            return true;
        }

        boolean has(int p) {
            return p >= 0 && p < count;
        }

        boolean isOver(int p) {
            return (over >> p & 1) == 1;
        }

        int everyone() {
            return (1 << count) - 1;
        }

        int notOver() {
            return everyone() & ~over;
        }

        boolean canRow(int set) {
            return set != 0 && (set & ~notOver()) == 0;
        }

        int trait(int p, int what) {
            switch (what) {
                case 0: return rank[p];
                case 1: return child[p];
                case 2: return talk[p];
                case 3: return firm[p];
                case 4: return over >> p & 1;
                case 5: return waded[p];
                case 6: return turned[p];
                default: return NONE;
            }
        }

        int draw(int m) {
            state = state * 1664525 + 1013904223;
            return m > 0 ? (state >>> 8) % m : 0;
        }

        /** How many of a set have the same land first as one has. */
        int sameFirst(int p, int set) {
            int land = rank[p] / FIRST;
            int same = 0;
            for (int q = 0; q < count; q++) {
                if ((set >> q & 1) == 1 && rank[q] / FIRST == land) {
                    same++;
                }
            }
            return same;
        }

        /** Who of a set talks to one: the most talkative of those that have another land first. */
        int talkerTo(int p, int set) {
            int land = firstOf(rank[p]);
            int talker = NONE;
            for (int q = 0; q < count; q++) {
                if ((set >> q & 1) == 1 && firstOf(rank[q]) != land
                        && (talker == NONE || talk[q] > talk[talker])) {
                    talker = q;
                }
            }
            return talker;
        }

        int nearestTo(int p) {
            int nearest = NONE;
            int least = 0;
            for (int q = 0; q < count; q++) {
                if (q != p && !isOver(q)) {
                    int couples = otherwise(rank[p], rank[q]);
                    if (nearest == NONE || couples < least) {
                        nearest = q;
                        least = couples;
                    }
                }
            }
            return nearest;
        }

        void settle(int land) {
            age = land == bank ? Math.min(age + 1, MOST_AGE) : 0;
            bank = land;
        }
    }

    /** What happened, line by line; when it is full no line comes any more. */
    private static final class Book {
        static final int TURNED = 0;
        static final int ABSTAINED = 1;
        static final int VOTED = 2;
        static final int SEASON = 3;
        static final int STAYED = 4;
        static final int MOST = 150;
        static final int WIDTH = 4;

        final int[] lines = new int[MOST * WIDTH];
        int count;

        void write(int crossed, int what, int who, int which) {
            if (count >= MOST) {
                return;
            }
            int at = count * WIDTH;
            lines[at] = crossed;
            lines[at + 1] = what;
            lines[at + 2] = who;
            lines[at + 3] = which;
            count++;
        }

        int entry(int i, int what) {
            if (i < 0 || i >= count || what < 0 || what >= WIDTH) {
                return NONE - 1;
            }
            return lines[i * WIDTH + what];
        }

        void copyFrom(Book other) {
            count = other.count;
            System.arraycopy(other.lines, 0, lines, 0, MOST * WIDTH);
        }
    }

    /** The four texts as they are understood. */
    private static final class Texts {
        final Law law = new Law();
        final int[] hears = new int[MOST_PASSENGERS];
        final int[] rows = new int[MOST_LINES];
        final int[] stays = new int[MOST_LINES];
        /** By land, of its first line: the age (0: no line) and what it becomes. */
        final int[] behind = new int[LANDS];
        final int[] becomes = new int[LANDS];
        final int[] lines = new int[SEASONS + 1];

        void clear(int k) {
            lines[k] = 0;
            if (k == LAW) {
                law.clear();
            } else if (k == EARS) {
                Arrays.fill(hears, 0);
            } else if (k == SEASONS) {
                Arrays.fill(behind, 0);
            }
        }

        void take(int k, Texts other) {
            lines[k] = other.lines[k];
            if (k == LAW) {
                law.copyFrom(other.law);
            } else if (k == EARS) {
                System.arraycopy(other.hears, 0, hears, 0, MOST_PASSENGERS);
            } else if (k == LOG) {
                System.arraycopy(other.rows, 0, rows, 0, MOST_LINES);
                System.arraycopy(other.stays, 0, stays, 0, MOST_LINES);
            } else {
                System.arraycopy(other.behind, 0, behind, 0, LANDS);
                System.arraycopy(other.becomes, 0, becomes, 0, LANDS);
            }
        }

        boolean turnsAt(int land, int age) {
            return behind[land] > 0 && age >= behind[land];
        }

        int reachedBy(int talker) {
            int reached = hearersOf(1 << talker);
            for (int i = 0; i < MOST_PASSENGERS; i++) {
                reached |= hearersOf(reached);
            }
            return reached;
        }

        private int hearersOf(int talkers) {
            int hearers = 0;
            for (int p = 0; p < MOST_PASSENGERS; p++) {
                if ((hears[p] & talkers) != 0) {
                    hearers |= 1 << p;
                }
            }
            return hearers;
        }
    }

    /** The law, its lines as small programs: each part behind those that it joins. */
    private static final class Law {
        static final String WORDS = "sway abstain shells when or and not child talk firm waded turned bank age stream minute aboard for";
        static final int SWAY = 0;
        static final int ABSTAIN = 1;
        static final int SHELLS = 2;
        static final int WHEN = 3;
        static final int OR = 4;
        static final int AND = 5;
        static final int NOT = 6;
        static final int CHILD = 7;
        static final int TALK = 8;
        static final int FIRM = 9;
        static final int WADED = 10;
        static final int TURNED = 11;
        static final int BANK = 12;
        static final int AGE = 13;
        static final int STREAM = 14;
        static final int MINUTE = 15;
        static final int ABOARD = 16;
        static final int FOR = 17;

        /** A step's kind stands in its lowest bits, a number's value above them. */
        static final int KIND_BITS = 6;
        static final int KIND_MASK = 63;
        /** Eight open brackets hold two each, and the innermost comparison four. */
        static final int MOST_STACK = 32;

        private final int[] steps = new int[Tape.MOST];
        private final int[] word = new int[MOST_LINES];
        private final int[] from = new int[MOST_LINES];
        private final int[] when = new int[MOST_LINES];
        private final int[] until = new int[MOST_LINES];
        private final int[] stack = new int[MOST_STACK];
        /** By word: what it is for the one of whom the law is asked. */
        private final int[] values = new int[FOR + 1];
        private int lines;
        int size;

        void clear() {
            size = 0;
            lines = 0;
        }

        void copyFrom(Law other) {
            size = other.size;
            lines = other.lines;
            System.arraycopy(other.steps, 0, steps, 0, Tape.MOST);
            System.arraycopy(other.word, 0, word, 0, MOST_LINES);
            System.arraycopy(other.from, 0, from, 0, MOST_LINES);
            System.arraycopy(other.when, 0, when, 0, MOST_LINES);
            System.arraycopy(other.until, 0, until, 0, MOST_LINES);
        }

        void add(int kind, int value) {
            if (size < Tape.MOST) {
                steps[size] = value << KIND_BITS | kind;
                size++;
            }
        }

        void addLine(int itsWord, int itsFrom, int itsWhen) {
            if (lines < MOST_LINES) {
                word[lines] = itsWord;
                from[lines] = itsFrom;
                when[lines] = itsWhen;
                until[lines] = size;
                lines++;
            }
        }

        /** What is told of one for a word, by how things are around him. */
        int tells(int asked, River river, int who, int talk, int minute, int aboard) {
            learn(river, who, talk, minute, aboard);
            int told = untold(asked);
            for (int i = 0; i < lines; i++) {
                if (word[i] == asked
                        && (when[i] == until[i] || result(when[i], until[i]) != 0)) {
                    told = result(from[i], when[i]);
                    break;
                }
            }
            return Math.max(0, Math.min(told, asked == SHELLS ? 9 : 1000));
        }

        private void learn(River river, int who, int talk, int minute, int aboard) {
            values[CHILD] = river.child[who];
            values[TALK] = talk;
            values[FIRM] = river.firm[who];
            values[WADED] = river.waded[who];
            values[TURNED] = river.turned[who];
            values[BANK] = river.bank;
            values[AGE] = river.age;
            values[STREAM] = river.stream;
            values[MINUTE] = minute;
            values[ABOARD] = Integer.bitCount(aboard);
            values[FOR] = river.sameFirst(who, aboard);
        }

        private int untold(int asked) {
            switch (asked) {
                case SWAY: return 300 - 30 * values[FIRM];
                case ABSTAIN: return 20 * values[WADED];
                default: return 2 - values[CHILD];
            }
        }

        /** What steps leave; a condition leaves 1 if it is so, else 0. */
        private int result(int first, int end) {
            int top = 0;
            stack[0] = 0;
            for (int i = first; i < end; i++) {
                int kind = steps[i] & KIND_MASK;
                if (kind == NOT && top >= 1) {
                    stack[top - 1] = 1 - stack[top - 1];
                } else if (isJoint(kind) && top >= 2) {
                    top--;
                    stack[top - 1] = joined(kind, stack[top - 1], stack[top]);
                } else if (top < MOST_STACK) {
                    stack[top] = kind <= FOR ? values[kind] : steps[i] >> KIND_BITS;
                    top++;
                }
            }
            return stack[0];
        }

        private static boolean isJoint(int kind) {
            return kind == OR || kind == AND || kind > Tape.NUMBER;
        }

        private static int joined(int kind, int a, int b) {
            switch (kind) {
                case '+': return a + b;
                case '-': return a - b;
                case '*': return a * b;
                case '/': return b == 0 ? 0 : a / b;
                case '<': return a < b ? 1 : 0;
                case '=': return a == b ? 1 : 0;
                case '>': return a > b ? 1 : 0;
                case OR: return a | b;
                default: return a & b;
            }
        }
    }

    /** The bytes that were fed, and the tokens that are read of them. */
    private static final class Tape {
        static final int MOST = 400;
        static final int FEED = 20;
        /** Words have lesser kinds than these; signs have their own codes, which are greater. */
        static final int BAD = 31;
        static final int END = 32;
        static final int NUMBER = 33;
        static final String SIGNS = ";+-*/()<=>";

        private final byte[] bytes = new byte[MOST];
        int size;
        /** One more than there can be bytes: the end is a token too. */
        private final int[] kinds = new int[MOST + 1];
        private final int[] values = new int[MOST + 1];
        private final int[] places = new int[MOST + 1];
        private int tokens;
        private int at;
        /** The token that is read now. */
        int kind;
        int value;
        int place;

        boolean hasRoom() {
            return size + FEED <= MOST;
        }

        void put(int four) {
            for (int shift = 24; shift >= 0 && size < MOST; shift -= 8) {
                bytes[size] = (byte) (four >> shift);
                size++;
            }
        }

        /** Makes tokens of all bytes ahead of reading, so that a parser's calls stay few. */
        void rewind(String words) {
            tokens = 0;
            int next = 0;
            for (int i = 0; i < MOST && next < size; i++) {
                if (isBlank(bytes[next])) {
                    next++;
                } else if (isLetter(bytes[next])) {
                    next = addWord(next, words);
                } else if (isFigure(bytes[next])) {
                    next = addNumber(next);
                } else {
                    int sign = bytes[next] & 255;
                    addToken(SIGNS.indexOf((char) sign) >= 0 ? sign : BAD, 0, next);
                    next++;
                }
            }
            addToken(END, 0, size);
            at = -1;
            advance();
        }

        void advance() {
            if (at + 1 < tokens) {
                at++;
                kind = kinds[at];
                value = values[at];
                place = places[at];
            }
        }

        private void addToken(int itsKind, int itsValue, int itsPlace) {
            if (tokens <= MOST) {
                kinds[tokens] = itsKind;
                values[tokens] = itsValue;
                places[tokens] = itsPlace;
                tokens++;
            }
        }

        /** Where the letters that begin here end. */
        private int addWord(int from, String words) {
            int end = from;
            while (end < size && isLetter(bytes[end])) {
                end++;
            }
            int found = BAD;
            int word = 0;
            int start = 0;
            for (int i = 0; i <= words.length() && found == BAD; i++) {
                if (i == words.length() || words.charAt(i) == ' ') {
                    if (i - start == end - from && isSpelled(from, end, words, start)) {
                        found = word;
                    }
                    word++;
                    start = i + 1;
                }
            }
            addToken(found, 0, from);
            return end;
        }

        private boolean isSpelled(int from, int end, String words, int start) {
            for (int i = from; i < end; i++) {
                if (words.charAt(start + i - from) != bytes[i]) {
                    return false;
                }
            }
            return true;
        }

        /** Where the digits that begin here end. */
        private int addNumber(int from) {
            int end = from;
            int number = 0;
            while (end < size && isFigure(bytes[end])) {
                number = number * 10 + bytes[end] - '0';
                end++;
            }
            addToken(end - from <= 4 ? NUMBER : BAD, number, from);
            return end;
        }

        private static boolean isBlank(int sign) {
            return sign == 32 || sign == 10;
        }

        private static boolean isLetter(int sign) {
            return sign >= 'a' && sign <= 'z' || sign >= 'A' && sign <= 'Z';
        }

        private static boolean isFigure(int sign) {
            return sign >= '0' && sign <= '9';
        }
    }

    /** Reads the tape as a text, into a draft, up to the first fault. */
    private static final class Parser {
        static final int OUT_OF_PLACE = 1;
        static final int OUT_OF_BOUNDS = 2;
        static final int TOO_MANY = 3;
        static final int MOST_OPEN = 8;
        static final int HEARS = 1;
        static final int STAY = 1;
        static final int BEHIND = 1;
        static final int IS = 2;

        final Texts draft = new Texts();
        int blame;
        int blamePlace = NONE;
        private final Tape tape;
        private int everyone;

        Parser(Tape itsTape) {
            tape = itsTape;
        }

        /** How many lines the tape has as text k; NONE for no such text or a fault. */
        int read(int k, int itsEveryone) {
            blame = 0;
            blamePlace = NONE;
            everyone = itsEveryone;
            if (k < LAW || k > SEASONS) {
                return NONE;
            }
            draft.clear(k);
            tape.rewind(wordsOf(k));
            boolean right = true;
            for (int i = 0; i <= MOST_LINES && right && tape.kind != Tape.END; i++) {
                if (!startsLine(k)) {
                    right = blamed(OUT_OF_PLACE);
                } else if (i == MOST_LINES) {
                    right = blamed(TOO_MANY);
                } else if (k == LAW) {
                    right = readLaw();
                } else if (k == EARS) {
                    right = readEar();
                } else {
                    right = k == LOG ? readRow(i) : readSeason();
                }
                draft.lines[k] = i + 1;
            }
            return right ? draft.lines[k] : NONE;
        }

        private static String wordsOf(int k) {
            switch (k) {
                case LAW: return Law.WORDS;
                case EARS: return "passenger hears";
                case LOG: return "row stay";
                default: return "bank behind is";
            }
        }

        /** Always false, so that what finds a fault can answer with it. */
        private boolean blamed(int fault) {
            blame = fault;
            blamePlace = tape.place;
            return false;
        }

        private boolean startsLine(int k) {
            return k == LAW ? tape.kind <= Law.SHELLS : tape.kind == 0;
        }

        private boolean expect(int kind) {
            if (tape.kind != kind) {
                return blamed(OUT_OF_PLACE);
            }
            tape.advance();
            return true;
        }

        /** The number that stands here if it is within bounds; NONE with a fault. */
        private int expectNumber(int least, int most) {
            if (tape.kind != Tape.NUMBER) {
                blamed(OUT_OF_PLACE);
                return NONE;
            }
            int number = tape.value;
            if (number < least || number > most) {
                blamed(OUT_OF_BOUNDS);
                return NONE;
            }
            tape.advance();
            return number;
        }

        private int expectOneOf(int allowed) {
            if (tape.kind == Tape.NUMBER
                    && (tape.value >= MOST_PASSENGERS || (allowed >> tape.value & 1) == 0)) {
                blamed(OUT_OF_BOUNDS);
                return NONE;
            }
            return expectNumber(0, MOST_PASSENGERS - 1);
        }

        /** One or more of those allowed, each once: their set; 0 with a fault. */
        private int expectSome(int allowed) {
            int some = 0;
            for (int i = 0; i <= MOST_PASSENGERS; i++) {
                if (i > 0 && tape.kind != Tape.NUMBER) {
                    return some;
                }
                int p = expectOneOf(allowed & ~some);
                if (p == NONE) {
                    return 0;
                }
                some |= 1 << p;
            }
            return some;
        }

        private boolean readEar() {
            tape.advance();
            int hearer = expectOneOf(everyone);
            if (hearer == NONE || !expect(HEARS)) {
                return false;
            }
            int talker = expectOneOf(everyone & ~(1 << hearer));
            if (talker == NONE) {
                return false;
            }
            draft.hears[hearer] |= 1 << talker;
            return expect(';');
        }

        private boolean readRow(int i) {
            tape.advance();
            int row = expectSome(everyone);
            if (row == 0) {
                return false;
            }
            int stays = 0;
            if (tape.kind == STAY) {
                tape.advance();
                stays = expectSome(row);
                if (stays == 0) {
                    return false;
                }
            }
            if (i < MOST_LINES) {
                draft.rows[i] = row;
                draft.stays[i] = stays;
            }
            return expect(';');
        }

        private boolean readSeason() {
            tape.advance();
            int land = expectNumber(0, LANDS - 1);
            if (land == NONE || !expect(BEHIND)) {
                return false;
            }
            int age = expectNumber(1, 99);
            if (age == NONE || !expect(IS)) {
                return false;
            }
            int becomes = expectNumber(0, LANDS - 1);
            if (becomes == NONE) {
                return false;
            }
            if (draft.behind[land] == 0) {
                draft.behind[land] = age;
                draft.becomes[land] = becomes;
            }
            return expect(';');
        }

        private boolean readLaw() {
            int word = tape.kind;
            int from = draft.law.size;
            tape.advance();
            if (!readSum()) {
                return false;
            }
            int when = draft.law.size;
            if (tape.kind == Law.WHEN) {
                tape.advance();
                if (!readConditions(0)) {
                    return false;
                }
            }
            draft.law.addLine(word, from, when);
            return expect(';');
        }

        /** E: * and / are joined at once, + and - behind the product that follows them. */
        private boolean readSum() {
            int before = Tape.END;
            int waiting = Tape.END;
            for (int i = 0; i < Tape.MOST && readOperand(before); i++) {
                if (before == '*' || before == '/') {
                    draft.law.add(before, 0);
                }
                before = tape.kind;
                if (before != '*' && before != '/') {
                    if (waiting != Tape.END) {
                        draft.law.add(waiting, 0);
                    }
                    if (before != '+' && before != '-') {
                        return true;
                    }
                    waiting = before;
                }
                tape.advance();
            }
            return false;
        }

        /** What can stand behind a sign: a U, but behind / a NUMBER alone, which is not 0. */
        private boolean readOperand(int sign) {
            boolean isNumber = tape.kind == Tape.NUMBER;
            boolean isValue = tape.kind >= Law.CHILD && tape.kind <= Law.FOR;
            if (!isNumber && (sign == '/' || !isValue)) {
                return blamed(OUT_OF_PLACE);
            }
            if (sign == '/' && tape.value == 0) {
                return blamed(OUT_OF_BOUNDS);
            }
            draft.law.add(tape.kind, tape.value);
            tape.advance();
            return true;
        }

        /** B: what stands with and is joined at once, what stands with or when its ands are. */
        private boolean readConditions(int open) {
            boolean withAnd = false;
            boolean withOr = false;
            for (int i = 0; i < Tape.MOST; i++) {
                if (!readCondition(open)) {
                    return false;
                }
                if (withAnd) {
                    draft.law.add(Law.AND, 0);
                }
                withAnd = tape.kind == Law.AND;
                if (!withAnd) {
                    if (withOr) {
                        draft.law.add(Law.OR, 0);
                    }
                    withOr = tape.kind == Law.OR;
                }
                if (tape.kind != Law.AND && tape.kind != Law.OR) {
                    return true;
                }
                tape.advance();
            }
            return false;
        }

        private boolean readCondition(int open) {
            if (tape.kind == '(' || tape.kind == Law.NOT) {
                return open < MOST_OPEN ? readOpened(open + 1) : blamed(TOO_MANY);
            }
            if (!readSum()) {
                return false;
            }
            int sign = tape.kind;
            if (sign != '<' && sign != '=' && sign != '>') {
                return blamed(OUT_OF_PLACE);
            }
            tape.advance();
            if (!readSum()) {
                return false;
            }
            draft.law.add(sign, 0);
            return true;
        }

        private boolean readOpened(int open) {
            boolean isBracket = tape.kind == '(';
            tape.advance();
            if (isBracket) {
                return readConditions(open) && expect(')');
            }
            if (!readCondition(open)) {
                return false;
            }
            draft.law.add(Law.NOT, 0);
            return true;
        }
    }

    /** One crossing: talked and voted by draws, or in thought on a copy of the river. */
    private static final class Crossing {
        static final int LIKELY = 500;
        static final int CERTAIN = 1000;
        static final int LEAST_MINUTES = 3;

        final int[] laid = new int[LANDS];
        int turnings;
        private final World world;
        private final Law law;
        private final River copy = new River();
        private River river;
        private boolean inThought;
        private int aboard;

        Crossing(World itsWorld) {
            world = itsWorld;
            law = itsWorld.texts.law;
            river = itsWorld.river;
        }

        /** What those aboard vote; nothing of it stays. */
        int imagine(int set) {
            copy.copyFrom(world.river);
            river = copy;
            inThought = true;
            return vote(set);
        }

        int sail(int set) {
            river = world.river;
            inThought = false;
            int land = vote(set);
            int crossed = river.crossed;
            river.settle(land);
            river.crossed++;
            river.minute = Math.min(river.minute + LEAST_MINUTES + river.stream, River.MOST_MINUTE);
            world.book.write(crossed, Book.VOTED, NONE, land);
            if (world.texts.turnsAt(river.bank, river.age)) {
                river.bank = world.texts.becomes[river.bank];
                river.age = 0;
                world.book.write(crossed, Book.SEASON, NONE, river.bank);
            }
            return river.bank;
        }

        private int vote(int set) {
            aboard = set;
            turnings = 0;
            int minutes = LEAST_MINUTES + river.stream;
            for (int minute = 0; minute < minutes; minute++) {
                for (int p = 0; p < river.count; p++) {
                    if (isAboard(p)) {
                        listen(p, minute);
                    }
                }
            }
            int abstaining = 0;
            for (int p = 0; p < river.count; p++) {
                if (isAboard(p) && abstains(p, minutes)) {
                    abstaining |= 1 << p;
                }
            }
            Arrays.fill(laid, 0);
            for (int p = 0; p < river.count; p++) {
                if (isAboard(p) && (abstaining >> p & 1) == 0) {
                    int land = firstOf(river.rank[p]);
                    laid[land] += law.tells(Law.SHELLS, river, p, river.talk[p], minutes, aboard);
                }
            }
            return winnerOf(laid);
        }

        private boolean isAboard(int p) {
            return (aboard >> p & 1) == 1;
        }

        private boolean comesTrue(int likely) {
            return inThought ? likely >= LIKELY : river.draw(CERTAIN) < likely;
        }

        private void listen(int p, int minute) {
            int talker = river.talkerTo(p, world.texts.hears[p] & aboard);
            if (talker == NONE) {
                return;
            }
            int likely = law.tells(Law.SWAY, river, p, river.talk[talker], minute, aboard);
            if (!comesTrue(likely)) {
                return;
            }
            int land = firstOf(river.rank[talker]);
            river.rank[p] = raised(river.rank[p], land);
            river.turned[p]++;
            turnings++;
            if (!inThought) {
                world.book.write(river.crossed, Book.TURNED, p, land);
            }
        }

        private boolean abstains(int p, int minutes) {
            int likely = law.tells(Law.ABSTAIN, river, p, river.talk[p], minutes, aboard);
            if (likely == 0 || !comesTrue(likely)) {
                return false;
            }
            river.waded[p]++;
            if (!inThought) {
                world.book.write(river.crossed, Book.ABSTAINED, p, river.waded[p]);
            }
            return true;
        }
    }

    /** What comes of the shells of all that are not over, as ranks are now and nobody talks. */
    private static final class Poll {
        private final World world;
        private final int[] shells = new int[MOST_PASSENGERS];
        private final int[] laid = new int[LANDS];
        private final int[] listed = new int[MOST_PASSENGERS];
        /** By couples of lands: what those weigh who have the one ahead of the other. */
        private final int[] ahead = new int[LANDS * LANDS];
        int cheapest;
        int cheapestSet;

        Poll(World itsWorld) {
            world = itsWorld;
        }

        /** What the law tells of one if all not over are aboard, and himself. */
        int told(int word, int p, int talk) {
            River river = world.river;
            return world.texts.law.tells(word, river, p, talk, 0, river.notOver() | 1 << p);
        }

        /** Shells of those not over; whoever is over lays none. */
        void askAll() {
            River river = world.river;
            for (int p = 0; p < river.count; p++) {
                shells[p] = river.isOver(p) ? 0 : told(Law.SHELLS, p, river.talk[p]);
            }
        }

        private int firstLandOf(int p) {
            return firstOf(world.river.rank[p]);
        }

        /** Shells don't hang on who is aboard here, so one alone is the fewest. */
        int firstMaker(int land) {
            for (int p = 0; p < world.river.count; p++) {
                if (shells[p] > 0 && firstLandOf(p) == land) {
                    return p;
                }
            }
            return NONE;
        }

        int timesTurned(int who) {
            if (shells[who] == 0) {
                return 0;
            }
            int found = listBut(1 << who);
            int idle = Integer.bitCount(world.river.notOver()) - 1 - found;
            int land = firstLandOf(who);
            Arrays.fill(laid, 0);
            int times = turnsBank(land, shells[who]) ? 1 : 0;
            int chosen = 0;
            for (int i = 1; i < 1 << found; i++) {
                int p = changedAt(i);
                chosen ^= 1 << p;
                laid[firstLandOf(p)] += (chosen >> p & 1) == 1 ? shells[p] : -shells[p];
                times += turnsBank(land, shells[who]) ? 1 : 0;
            }
            return times << idle;
        }

        /** Lists those that lay shells and are not of a set; how many there are. */
        private int listBut(int set) {
            int found = 0;
            for (int p = 0; p < world.river.count; p++) {
                if (shells[p] > 0 && (set >> p & 1) == 0) {
                    listed[found] = p;
                    found++;
                }
            }
            return found;
        }

        /** Who comes or goes in step i, so that steps 1, 2 .. go through every set of those listed. */
        private int changedAt(int i) {
            return listed[Math.min(Integer.numberOfTrailingZeros(i), MOST_PASSENGERS - 1)];
        }

        private boolean turnsBank(int land, int more) {
            int before = winnerOf(laid);
            laid[land] += more;
            int after = winnerOf(laid);
            laid[land] -= more;
            return before != after;
        }

        void compareByShells() {
            compare(true);
        }

        void compareByHeads() {
            compare(false);
        }

        private void compare(boolean byShells) {
            Arrays.fill(ahead, 0);
            for (int p = 0; p < world.river.count; p++) {
                if (!world.river.isOver(p)) {
                    addCouples(world.river.rank[p], byShells ? shells[p] : 1);
                }
            }
        }

        private void addCouples(int rank, int weight) {
            for (int unit = FIRST; unit > 1; unit /= 10) {
                int earlier = rank / unit % 10;
                for (int less = unit / 10; less >= 1; less /= 10) {
                    ahead[earlier * LANDS + rank / less % 10] += weight;
                }
            }
        }

        int lead(int a, int b) {
            return ahead[a * LANDS + b] - ahead[b * LANDS + a];
        }

        int champion() {
            for (int land = 1; land < LANDS; land++) {
                int beaten = 0;
                for (int other = 1; other < LANDS; other++) {
                    if (other != land && lead(land, other) > 0) {
                        beaten++;
                    }
                }
                if (beaten == LANDS - 2) {
                    return land;
                }
            }
            return NONE;
        }

        int points(int land) {
            int points = 0;
            for (int p = 0; p < world.river.count; p++) {
                int behind = 0;
                for (int other = 1; other < LANDS; other++) {
                    if (other != land && isAhead(world.river.rank[p], land, other)) {
                        behind++;
                    }
                }
                points += behind * shells[p];
            }
            return points;
        }

        int lastLeft() {
            if (world.river.notOver() == 0) {
                return NONE;
            }
            int left = 0b111110;
            for (int round = 1; round < LANDS - 1; round++) {
                left &= ~(1 << weakestOf(left));
            }
            return Integer.numberOfTrailingZeros(left);
        }

        private int weakestOf(int left) {
            Arrays.fill(laid, 0);
            for (int p = 0; p < world.river.count; p++) {
                laid[firstAmong(world.river.rank[p], left)] += shells[p];
            }
            int weakest = 0;
            for (int land = 1; land < LANDS; land++) {
                if ((left >> land & 1) == 1 && (weakest == 0 || laid[land] <= laid[weakest])) {
                    weakest = land;
                }
            }
            return weakest;
        }

        private static int firstAmong(int rank, int left) {
            for (int unit = FIRST; unit >= 1; unit /= 10) {
                int land = rank / unit % 10;
                if ((left >> land & 1) == 1) {
                    return land;
                }
            }
            return 0;
        }

        /** The least order in which a land wins, put two by two. */
        int orderFor(int land) {
            for (int order : RANKS) {
                if (winnerInOrder(order) == land) {
                    return order;
                }
            }
            return NONE;
        }

        private int winnerInOrder(int order) {
            int winner = firstOf(order);
            for (int unit = 1000; unit >= 1; unit /= 10) {
                int next = order / unit % 10;
                if (lead(winner, next) < 0) {
                    winner = next;
                }
            }
            return winner;
        }

        /** What 0 the rank that is nearest to all, 1 by how many couples it is otherwise. */
        int nearestRank(int what) {
            int nearest = NONE;
            int least = 0;
            for (int rank : RANKS) {
                int couples = couplesAgainst(rank);
                if (nearest == NONE || couples < least) {
                    nearest = rank;
                    least = couples;
                }
            }
            return what == 0 ? nearest : least;
        }

        private int couplesAgainst(int rank) {
            int couples = 0;
            for (int unit = FIRST; unit > 1; unit /= 10) {
                int earlier = rank / unit % 10;
                for (int less = unit / 10; less >= 1; less /= 10) {
                    couples += ahead[rank / less % 10 * LANDS + earlier];
                }
            }
            return couples;
        }

        int boatsNeeded(int c) {
            Arrays.fill(laid, 0);
            for (int p = 0; p < world.river.count; p++) {
                if (!world.river.isOver(p)) {
                    laid[firstLandOf(p)]++;
                }
            }
            int boats = 0;
            for (int land = 1; land < LANDS && c > 0; land++) {
                boats += (laid[land] + c - 1) / c;
            }
            return boats;
        }

        int crossingsNeeded(int c) {
            int left = Integer.bitCount(world.river.notOver());
            if (left <= c) {
                return left == 0 ? 0 : 1;
            }
            if (c < 2) {
                return NONE;
            }
            // Each boat there and back takes c - 1 over; the last one takes c, so 2 to c are left for it.
            int returns = (left - 2) / (c - 1);
            return 2 * returns + 1;
        }

        void findCheapest(int land) {
            cheapest = NONE;
            cheapestSet = NONE;
            int own = layAll(land);
            int found = listBut(own);
            int sum = 0;
            int set = 0;
            keepIfCheaper(land, sum, set);
            for (int i = 1; i < 1 << found; i++) {
                int p = changedAt(i);
                set ^= 1 << p;
                int sign = (set >> p & 1) == 1 ? 1 : -1;
                sum += sign * world.bribes[p];
                laid[land] += sign * shells[p];
                laid[firstLandOf(p)] -= sign * shells[p];
                keepIfCheaper(land, sum, set);
            }
        }

        /** Lays all shells; who laid his for a land of his own will, and needs no bribe for it. */
        private int layAll(int land) {
            Arrays.fill(laid, 0);
            int own = 0;
            for (int p = 0; p < world.river.count; p++) {
                laid[firstLandOf(p)] += shells[p];
                own |= firstLandOf(p) == land ? 1 << p : 0;
            }
            return own;
        }

        private void keepIfCheaper(int land, int sum, int set) {
            boolean better = cheapest == NONE || sum < cheapest || sum == cheapest && set < cheapestSet;
            if (better && winnerOf(laid) == land) {
                cheapest = sum;
                cheapestSet = set;
            }
        }

        /** What 0 from whom who begins takes so as to win, 1 how many; NONE if he loses. */
        int goodMove(int what) {
            int sum = 0;
            for (int p = 0; p < world.river.count; p++) {
                sum ^= worth(shells[p]);
            }
            for (int p = 0; p < world.river.count; p++) {
                int others = sum ^ worth(shells[p]);
                if (shells[p] > 0 && worth(shells[p] - 1) == others) {
                    return what == 0 ? p : 1;
                }
                if (shells[p] > 0 && others == 0) {
                    return what == 0 ? p : shells[p];
                }
            }
            return NONE;
        }

        /** A heap from which 1 or all is taken is worth 1 if it is odd, 2 if it is even (Grundy). */
        private static int worth(int heap) {
            return heap == 0 ? 0 : 2 - heap % 2;
        }
    }

    /** The latest acts, as things were ahead of each; the earliest gives way. */
    private static final class Past {
        static final int MOST = 6;

        private final River[] rivers = new River[MOST];
        private final int[] bookLines = new int[MOST];
        private int next;
        int count;

        Past() {
            for (int i = 0; i < MOST; i++) {
                rivers[i] = new River();
            }
        }

        void keep(World world) {
            rivers[next].copyFrom(world.river);
            bookLines[next] = world.book.count;
            next = (next + 1) % MOST;
            count = Math.min(count + 1, MOST);
        }

        boolean goBack(World world) {
            if (count == 0) {
                return false;
            }
            next = (next + MOST - 1) % MOST;
            count--;
            world.river.copyFrom(rivers[next]);
            world.book.count = bookLines[next];
            return true;
        }

        void forget() {
            count = 0;
        }
    }
}
