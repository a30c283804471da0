import java.util.ArrayDeque;
import java.util.ArrayList;
import java.util.Deque;
import java.util.HashMap;
import java.util.List;
import java.util.Map;
import java.util.Set;
import java.util.TreeSet;
import java.util.function.ToIntFunction;

/**
 * The document a second time, as slowly and plainly as can be: texts are kept as signs, sets are tried one
 * by one, games are played to their end. FuzzTest holds the class against it.
 */
final class Model {
    private static final int NONE = -1;
    private static final List<Integer> RANKS = ranks();
    private static final Map<List<Integer>, Boolean> GAMES = new HashMap<>();

    static final class Person {
        List<Integer> rank;
        int child;
        int talk;
        int firm;
        boolean over;
        int waded;
        int turned;

        Person copy() {
            Person p = new Person();
            p.rank = new ArrayList<>(rank);
            p.child = child;
            p.talk = talk;
            p.firm = firm;
            p.over = over;
            p.waded = waded;
            p.turned = turned;
            return p;
        }

        int first() {
            return rank.get(0);
        }
    }

    static final class Fault extends Exception {
        private static final long serialVersionUID = 1L;
        final int what;
        final int place;

        Fault(int what, int place) {
            this.what = what;
            this.place = place;
        }
    }

    record Token(String sign, int place) {
        boolean isNumber() {
            return sign.matches("[0-9]{1,4}");
        }
    }

    record Around(Person who, int talk, int minute, List<Person> aboard) {
    }

    record LawLine(String word, ToIntFunction<Around> e, ToIntFunction<Around> b) {
    }

    private List<Person> people = new ArrayList<>();
    private int bank;
    private int age;
    private int stream;
    private int minute;
    private int crossed;
    private int state;
    private List<int[]> book = new ArrayList<>();
    private String[] texts = {"", "", "", ""};
    private int[] lineCounts = new int[4];
    private List<Integer> seen = new ArrayList<>();
    private int[] bribes = {1, 1, 1, 1, 1, 1, 1, 1, 1, 1, 1, 1};

    private String tape = "";
    private int fault;
    private int place = NONE;
    private final Deque<Model> undos = new ArrayDeque<>();
    private Model image;
    private int turnings;
    private int winningShells;

    private void copyActs(Model o) {
        people = new ArrayList<>();
        for (Person p : o.people) {
            people.add(p.copy());
        }
        bank = o.bank;
        age = o.age;
        stream = o.stream;
        minute = o.minute;
        crossed = o.crossed;
        state = o.state;
        book = new ArrayList<>(o.book);
    }

    private void copyTold(Model o) {
        texts = o.texts.clone();
        lineCounts = o.lineCounts.clone();
        seen = new ArrayList<>(o.seen);
        bribes = o.bribes.clone();
    }

    private Model copy() {
        Model m = new Model();
        m.copyActs(this);
        m.copyTold(this);
        return m;
    }

    private void act() {
        undos.addLast(copy());
        if (undos.size() > 6) {
            undos.removeFirst();
        }
    }

    // ---- ranks

    private static List<Integer> ranks() {
        List<Integer> all = new ArrayList<>();
        for (int n = 12345; n <= 54321; n++) {
            Set<Character> digits = new TreeSet<>();
            for (char c : ("" + n).toCharArray()) {
                if (c >= '1' && c <= '5') {
                    digits.add(c);
                }
            }
            if (digits.size() == 5) {
                all.add(n);
            }
        }
        return all;
    }

    private static List<Integer> digits(int rank) {
        List<Integer> l = new ArrayList<>();
        for (char c : ("" + rank).toCharArray()) {
            l.add(c - '0');
        }
        return l;
    }

    private static int number(List<Integer> rank) {
        int n = 0;
        for (int d : rank) {
            n = 10 * n + d;
        }
        return n;
    }

    private static int apart(List<Integer> a, List<Integer> b) {
        int n = 0;
        for (int i = 1; i <= 5; i++) {
            for (int j = 1; j < i; j++) {
                if ((a.indexOf(i) < a.indexOf(j)) != (b.indexOf(i) < b.indexOf(j))) {
                    n++;
                }
            }
        }
        return n;
    }

    // ---- texts

    private static final String[][] KEYWORDS = {
        {"sway", "abstain", "shells", "when", "or", "and", "not", "child", "talk", "firm", "waded", "turned", "bank",
            "age", "stream", "minute", "aboard", "for"},
        {"passenger", "hears"}, {"row", "stay"}, {"bank", "behind", "is"}};

    private List<Token> tokens;
    private int at;

    private static List<Token> lex(int k, String s) {
        List<Token> all = new ArrayList<>();
        int i = 0;
        while (i < s.length()) {
            char c = s.charAt(i);
            int from = i;
            if (c == ' ' || c == '\n') {
                i++;
                continue;
            }
            String sign = "?";
            if ((c + "").matches("[a-zA-Z]")) {
                while (i < s.length() && (s.charAt(i) + "").matches("[a-zA-Z]")) {
                    i++;
                }
                String word = s.substring(from, i);
                sign = List.of(KEYWORDS[k]).contains(word) ? word : "?";
            } else if (c >= '0' && c <= '9') {
                while (i < s.length() && s.charAt(i) >= '0' && s.charAt(i) <= '9') {
                    i++;
                }
                sign = i - from <= 4 ? s.substring(from, i) : "?";
            } else {
                i++;
                sign = ";+-*/()<=>".indexOf(c) >= 0 ? "" + c : "?";
            }
            all.add(new Token(sign, from));
        }
        all.add(new Token("END", s.length()));
        return all;
    }

    private String peek() {
        return tokens.get(at).sign();
    }

    private int here() {
        return tokens.get(at).place();
    }

    private String eat(String... wanted) throws Fault {
        String sign = peek();
        if (!List.of(wanted).contains(sign)) {
            throw new Fault(1, here());
        }
        at++;
        return sign;
    }

    private int eatNumber(List<Integer> allowed) throws Fault {
        if (!tokens.get(at).isNumber()) {
            throw new Fault(1, here());
        }
        int n = Integer.parseInt(peek());
        if (!allowed.contains(n)) {
            throw new Fault(2, here());
        }
        at++;
        return n;
    }

    private static List<Integer> range(int from, int to) {
        List<Integer> l = new ArrayList<>();
        for (int i = from; i <= to; i++) {
            l.add(i);
        }
        return l;
    }

    /** The lines of a text: LawLines for the law, else rows of numbers (the log: two sets). */
    private List<Object> parse(int k, String s, int passengers) throws Fault {
        tokens = lex(k, s);
        at = 0;
        List<Object> lines = new ArrayList<>();
        while (!peek().equals("END")) {
            int keyword = here();
            String[] starts = k == 0 ? new String[] {"sway", "abstain", "shells"} : new String[] {KEYWORDS[k][0]};
            String word = eat(starts);
            if (lines.size() == 16) {
                throw new Fault(3, keyword);
            }
            List<Integer> all = range(0, passengers - 1);
            if (k == 0) {
                ToIntFunction<Around> e = parseE();
                ToIntFunction<Around> b = x -> 1;
                if (peek().equals("when")) {
                    at++;
                    b = parseB(0);
                }
                lines.add(new LawLine(word, e, b));
            } else if (k == 1) {
                int a = eatNumber(all);
                eat("hears");
                all.remove((Integer) a);
                lines.add(new int[] {a, eatNumber(all)});
            } else if (k == 2) {
                List<Integer> row = new ArrayList<>();
                do {
                    int p = eatNumber(all);
                    all.remove((Integer) p);
                    row.add(p);
                } while (!peek().equals("stay") && !peek().equals(";"));
                int rows = mask(row);
                List<Integer> stays = new ArrayList<>();
                if (peek().equals("stay")) {
                    at++;
                    do {
                        int p = eatNumber(row);
                        row.remove((Integer) p);
                        stays.add(p);
                    } while (!peek().equals(";"));
                }
                lines.add(new int[] {rows, mask(stays)});
            } else {
                int land = eatNumber(range(0, 5));
                eat("behind");
                int n = eatNumber(range(1, 99));
                eat("is");
                lines.add(new int[] {land, n, eatNumber(range(0, 5))});
            }
            eat(";");
        }
        return lines;
    }

    private static int mask(List<Integer> set) {
        int m = 0;
        for (int p : set) {
            m |= 1 << p;
        }
        return m;
    }

    private ToIntFunction<Around> parseB(int open) throws Fault {
        ToIntFunction<Around> a = parseA(open);
        while (peek().equals("or")) {
            at++;
            ToIntFunction<Around> l = a;
            ToIntFunction<Around> r = parseA(open);
            a = x -> l.applyAsInt(x) != 0 || r.applyAsInt(x) != 0 ? 1 : 0;
        }
        return a;
    }

    private ToIntFunction<Around> parseA(int open) throws Fault {
        ToIntFunction<Around> a = parseC(open);
        while (peek().equals("and")) {
            at++;
            ToIntFunction<Around> l = a;
            ToIntFunction<Around> r = parseC(open);
            a = x -> l.applyAsInt(x) != 0 && r.applyAsInt(x) != 0 ? 1 : 0;
        }
        return a;
    }

    private ToIntFunction<Around> parseC(int open) throws Fault {
        if (peek().equals("not") || peek().equals("(")) {
            if (open == 8) {
                throw new Fault(3, here());
            }
            boolean not = peek().equals("not");
            at++;
            if (not) {
                ToIntFunction<Around> c = parseC(open + 1);
                return x -> 1 - c.applyAsInt(x);
            }
            ToIntFunction<Around> b = parseB(open + 1);
            eat(")");
            return b;
        }
        ToIntFunction<Around> l = parseE();
        String sign = eat("<", "=", ">");
        ToIntFunction<Around> r = parseE();
        return x -> {
            int c = Integer.compare(l.applyAsInt(x), r.applyAsInt(x));
            return c < 0 && sign.equals("<") || c == 0 && sign.equals("=") || c > 0 && sign.equals(">") ? 1 : 0;
        };
    }

    private ToIntFunction<Around> parseE() throws Fault {
        ToIntFunction<Around> e = parseT();
        while (peek().equals("+") || peek().equals("-")) {
            int sign = peek().equals("+") ? 1 : -1;
            at++;
            ToIntFunction<Around> l = e;
            ToIntFunction<Around> r = parseT();
            e = x -> l.applyAsInt(x) + sign * r.applyAsInt(x);
        }
        return e;
    }

    private ToIntFunction<Around> parseT() throws Fault {
        ToIntFunction<Around> t = parseU();
        while (peek().equals("*") || peek().equals("/")) {
            boolean times = peek().equals("*");
            at++;
            ToIntFunction<Around> l = t;
            if (times) {
                ToIntFunction<Around> r = parseU();
                t = x -> l.applyAsInt(x) * r.applyAsInt(x);
            } else {
                int by = eatNumber(range(1, 9999));
                t = x -> l.applyAsInt(x) / by;
            }
        }
        return t;
    }

    private ToIntFunction<Around> parseU() throws Fault {
        if (tokens.get(at).isNumber()) {
            int n = Integer.parseInt(peek());
            at++;
            return x -> n;
        }
        String word = eat("child", "talk", "firm", "waded", "turned", "bank", "age", "stream", "minute", "aboard", "for");
        return x -> value(word, x);
    }

    private int value(String word, Around x) {
        switch (word) {
            case "child": return x.who().child;
            case "talk": return x.talk();
            case "firm": return x.who().firm;
            case "waded": return x.who().waded;
            case "turned": return x.who().turned;
            case "bank": return bank;
            case "age": return age;
            case "stream": return stream;
            case "minute": return x.minute();
            case "aboard": return x.aboard().size();
            default:
                return (int) x.aboard().stream().filter(p -> p.first() == x.who().first()).count();
        }
    }

    private final Map<String, List<Object>> read = new HashMap<>();

    private List<Object> linesOf(int k) {
        List<Object> lines = read.get(k + texts[k]);
        if (lines != null) {
            return lines;
        }
        try {
            lines = parse(k, texts[k], 12);
        } catch (Fault f) {
            throw new IllegalStateException(f);
        }
        read.put(k + texts[k], lines);
        return lines;
    }

    private int told(String word, Around x) {
        int told = word.equals("sway") ? 300 - 30 * x.who().firm
                : word.equals("abstain") ? 20 * x.who().waded : 2 - x.who().child;
        for (Object line : linesOf(0)) {
            LawLine l = (LawLine) line;
            if (l.word().equals(word) && l.b().applyAsInt(x) != 0) {
                told = l.e().applyAsInt(x);
                break;
            }
        }
        return Math.max(0, Math.min(told, word.equals("shells") ? 9 : 1000));
    }

    private int hears(int p) {
        int m = 0;
        for (Object line : linesOf(1)) {
            int[] l = (int[]) line;
            if (l[0] == p) {
                m |= 1 << l[1];
            }
        }
        return m;
    }

    private int[] seasonOf(int land) {
        for (Object line : linesOf(3)) {
            int[] l = (int[]) line;
            if (l[0] == land) {
                return l;
            }
        }
        return null;
    }

    // ---- crossings

    private int draw(int m) {
        state = 1664525 * state + 1013904223;
        long unsigned = state & 0xffffffffL;
        return (int) (unsigned / 256 % m);
    }

    private void write(int crossedThen, int what, int who, int which) {
        if (book.size() < 150) {
            book.add(new int[] {crossedThen, what, who, which});
        }
    }

    private List<Person> aboard(int set) {
        List<Person> l = new ArrayList<>();
        for (int p = 0; p < people.size(); p++) {
            if ((set & 1 << p) != 0) {
                l.add(people.get(p));
            }
        }
        return l;
    }

    private int notOver() {
        int m = 0;
        for (int p = 0; p < people.size(); p++) {
            if (!people.get(p).over) {
                m |= 1 << p;
            }
        }
        return m;
    }

    private boolean rows(int set) {
        return set != 0 && (set | notOver()) == notOver();
    }

    private int vote(int set, boolean thought) {
        List<Person> boat = aboard(set);
        turnings = 0;
        for (int m = 0; m < 3 + stream; m++) {
            for (Person p : boat) {
                Person talker = null;
                for (Person q : boat) {
                    boolean heard = (hears(people.indexOf(p)) & 1 << people.indexOf(q)) != 0;
                    if (heard && q.first() != p.first() && (talker == null || q.talk > talker.talk)) {
                        talker = q;
                    }
                }
                if (talker == null) {
                    continue;
                }
                int sway = told("sway", new Around(p, talker.talk, m, boat));
                if (thought ? sway >= 500 : draw(1000) < sway) {
                    int land = talker.first();
                    p.rank.remove((Integer) land);
                    p.rank.add(0, land);
                    p.turned++;
                    turnings++;
                    write(crossed, 0, people.indexOf(p), land);
                }
            }
        }
        List<Person> voters = new ArrayList<>();
        for (Person p : boat) {
            int abstain = told("abstain", new Around(p, p.talk, 3 + stream, boat));
            if (abstain > 0 && (thought ? abstain >= 500 : draw(1000) < abstain)) {
                p.waded++;
                write(crossed, 1, people.indexOf(p), p.waded);
            } else {
                voters.add(p);
            }
        }
        Map<Integer, Integer> laid = new HashMap<>();
        for (Person p : voters) {
            laid.merge(p.first(), told("shells", new Around(p, p.talk, 3 + stream, boat)), Integer::sum);
        }
        int land = winner(laid);
        winningShells = land == 0 ? 0 : laid.get(land);
        return land;
    }

    private static int winner(Map<Integer, Integer> laid) {
        int most = 0;
        for (int n : laid.values()) {
            most = Math.max(most, n);
        }
        int winner = 0;
        int winners = 0;
        for (Map.Entry<Integer, Integer> e : laid.entrySet()) {
            if (e.getValue() == most) {
                winner = e.getKey();
                winners++;
            }
        }
        return most > 0 && winners == 1 ? winner : 0;
    }

    private void sail(int set) {
        int land = vote(set, false);
        age = land != bank ? 0 : age == 999 ? 999 : age + 1;
        bank = land;
        write(crossed, 2, NONE, land);
        int[] season = seasonOf(bank);
        if (season != null && age >= season[1]) {
            bank = season[2];
            age = 0;
            write(crossed, 3, NONE, bank);
        }
        crossed++;
        minute += 3 + stream;
    }

    // ---- the face

    int state(int v) {
        int was = state;
        state = v;
        undos.clear();
        return was;
    }

    int passenger(int rank, boolean child, int talk, int firm) {
        if (!RANKS.contains(rank) || talk < 0 || talk > 9 || firm < 0 || firm > 9 || people.size() == 12) {
            return NONE;
        }
        Person p = new Person();
        p.rank = digits(rank);
        p.child = child ? 1 : 0;
        p.talk = talk;
        p.firm = firm;
        people.add(p);
        undos.clear();
        return people.size() - 1;
    }

    boolean set(int what, int who, int v) {
        int most = what == 1 ? 5 : what == 2 ? 999 : 9;
        boolean asksWho = what >= 3;
        if (what < 0 || what > 5 || asksWho && (who < 0 || who >= people.size())
                || (what == 3 ? !RANKS.contains(v) : v < 0 || v > most)) {
            return false;
        }
        undos.clear();
        switch (what) {
            case 0: stream = v; break;
            case 1: bank = v; break;
            case 2: age = v; break;
            case 3: people.get(who).rank = digits(v); break;
            case 4: people.get(who).talk = v; break;
            default: people.get(who).firm = v;
        }
        return true;
    }

    int cross(int set) {
        if (!rows(set)) {
            return NONE;
        }
        act();
        sail(set);
        return bank;
    }

    boolean stay(int p, boolean is) {
        if (p < 0 || p >= people.size() || people.get(p).over == is) {
            return false;
        }
        act();
        people.get(p).over = is;
        if (is) {
            write(crossed, 4, p, 0);
        }
        return true;
    }

    int log() {
        act();
        int n = 0;
        for (Object line : linesOf(2)) {
            int[] l = (int[]) line;
            int set = l[0] & notOver();
            if (set != 0) {
                sail(set);
                n++;
            }
            for (int p = 0; p < people.size(); p++) {
                if ((l[1] & 1 << p) != 0 && !people.get(p).over) {
                    people.get(p).over = true;
                    write(crossed, 4, p, 0);
                }
            }
        }
        return n;
    }

    int feed(int a, int b, int c, int d, int e) {
        if (tape.length() > 380) {
            return NONE;
        }
        for (int n : new int[] {a, b, c, d, e}) {
            tape += "" + (char) (n >>> 24) + (char) (n >>> 16 & 255) + (char) (n >>> 8 & 255) + (char) (n & 255);
        }
        return tape.length();
    }

    boolean end(int n) {
        if (n < 0 || n > tape.length()) {
            return false;
        }
        tape = tape.substring(0, n);
        return true;
    }

    int text(int k) {
        fault = 0;
        place = NONE;
        String signs = tape;
        tape = "";
        if (k < 0 || k > 3) {
            return NONE;
        }
        try {
            lineCounts[k] = parse(k, signs, people.size()).size();
            texts[k] = signs;
            if (k == 1 || k == 2) {
                undos.clear();
            }
            return lineCounts[k];
        } catch (Fault f) {
            fault = f.what;
            place = f.place;
            return NONE;
        }
    }

    int fault(int what) {
        return what == 0 ? fault : what == 1 ? place : NONE;
    }

    private int told(String word, int p, int talk) {
        Person who = people.get(p);
        return told(word, new Around(who, talk, 0, aboard(notOver() | 1 << p)));
    }

    int of(int p, int what) {
        if (p < 0 || p >= people.size()) {
            return NONE;
        }
        Person x = people.get(p);
        switch (what) {
            case 0: return number(x.rank);
            case 1: return x.child;
            case 2: return x.talk;
            case 3: return x.firm;
            case 4: return x.over ? 1 : 0;
            case 5: return x.waded;
            case 6: return x.turned;
            case 7: return hears(p);
            case 8: return told("shells", p, x.talk);
            case 9: return told("abstain", p, x.talk);
            default: return NONE;
        }
    }

    int sway(int a, int b) {
        if (a < 0 || b < 0 || a >= people.size() || b >= people.size()) {
            return NONE;
        }
        return told("sway", a, people.get(b).talk);
    }

    int season(int land, int what) {
        int[] l = seasonOf(land);
        return l == null || what < 0 || what > 1 ? NONE : l[what + 1];
    }

    int book(int i, int what) {
        return i < 0 || i >= book.size() || what < 0 || what > 3 ? -2 : book.get(i)[what];
    }

    int would(int set, int what) {
        if (!rows(set) || what < 0 || what > 2) {
            return NONE;
        }
        Model m = copy();
        int land = m.vote(set, true);
        return what == 0 ? land : what == 1 ? m.winningShells : m.turnings;
    }

    private Map<Integer, Integer> laidBy(int set, int bribed, int land) {
        Map<Integer, Integer> laid = new HashMap<>();
        for (int p = 0; p < people.size(); p++) {
            if ((set & 1 << p) != 0) {
                int its = (bribed & 1 << p) != 0 ? land : people.get(p).first();
                laid.merge(its, told("shells", p, people.get(p).talk), Integer::sum);
            }
        }
        return laid;
    }

    int makes(int land, int what) {
        if (land < 1 || land > 5 || what < 0 || what > 1) {
            return NONE;
        }
        int best = 0;
        for (int set = 1; set < 1 << people.size(); set++) {
            if (rows(set) && winner(laidBy(set, 0, 0)) == land
                    && (best == 0 || Integer.bitCount(set) < Integer.bitCount(best))) {
                best = set;
            }
        }
        return best == 0 ? NONE : what == 0 ? Integer.bitCount(best) : best;
    }

    int pivots(int p) {
        if (p < 0 || p >= people.size() || people.get(p).over) {
            return NONE;
        }
        int n = 0;
        for (int set = 0; set < 1 << people.size(); set++) {
            if ((set & 1 << p) == 0 && (set == 0 || rows(set))
                    && winner(laidBy(set, 0, 0)) != winner(laidBy(set | 1 << p, 0, 0))) {
                n++;
            }
        }
        return n;
    }

    int beats(int a, int b) {
        if (a < 1 || b < 1 || a > 5 || b > 5 || a == b) {
            return -1000;
        }
        int lead = 0;
        for (int p = 0; p < people.size(); p++) {
            Person x = people.get(p);
            if (!x.over) {
                int shells = told("shells", p, x.talk);
                lead += x.rank.indexOf(a) < x.rank.indexOf(b) ? shells : -shells;
            }
        }
        return lead;
    }

    int wins(int what) {
        if (what == 0) {
            for (int a = 1; a <= 5; a++) {
                int land = a;
                if (range(1, 5).stream().allMatch(b -> b == land || beats(land, b) > 0)) {
                    return a;
                }
            }
        } else if (what == 1 && notOver() != 0) {
            List<Integer> left = range(1, 5);
            while (left.size() > 1) {
                left.remove((Integer) weakest(left));
            }
            return left.get(0);
        } else if (what >= 11 && what <= 15) {
            int points = 0;
            for (int p = 0; p < people.size(); p++) {
                Person x = people.get(p);
                points += x.over ? 0 : (4 - x.rank.indexOf(what - 10)) * told("shells", p, x.talk);
            }
            return points;
        } else if (what >= 21 && what <= 25) {
            int[][] lead = new int[6][6];
            for (int a = 1; a <= 5; a++) {
                for (int b = 1; b <= 5; b++) {
                    lead[a][b] = a == b ? 0 : beats(a, b);
                }
            }
            for (int order : RANKS) {
                List<Integer> put = digits(order);
                while (put.size() > 1) {
                    put.remove(lead[put.get(0)][put.get(1)] >= 0 ? 1 : 0);
                }
                if (put.get(0) == what - 20) {
                    return order;
                }
            }
        }
        return NONE;
    }

    private int weakest(List<Integer> left) {
        int weakest = 0;
        int least = Integer.MAX_VALUE;
        for (int land : left) {
            int shells = 0;
            for (int p = 0; p < people.size(); p++) {
                Person x = people.get(p);
                int first = x.rank.stream().filter(left::contains).findFirst().get();
                shells += !x.over && first == land ? told("shells", p, x.talk) : 0;
            }
            if (shells <= least) {
                least = shells;
                weakest = land;
            }
        }
        return weakest;
    }

    int boats(int c, int what) {
        if (c < 1 || c > 12 || what < 0 || what > 1) {
            return NONE;
        }
        int n = Integer.bitCount(notOver());
        if (what == 0) {
            int boats = 0;
            for (int land = 1; land <= 5; land++) {
                int l = land;
                int left = (int) aboard(notOver()).stream().filter(p -> p.first() == l).count();
                while (left > 0) {
                    left -= c;
                    boats++;
                }
            }
            return boats;
        }
        int crossings = 0;
        while (n > 0) {
            crossings++;
            n -= Math.min(n, c);
            if (n > 0) {
                if (c == 1) {
                    return NONE;
                }
                crossings++;
                n++;
            }
        }
        return crossings;
    }

    int reaches(int p) {
        if (p < 0 || p >= people.size()) {
            return NONE;
        }
        int reached = 0;
        Deque<Integer> todo = new ArrayDeque<>(List.of(p));
        while (!todo.isEmpty()) {
            int talker = todo.pop();
            for (int q = 0; q < people.size(); q++) {
                if ((hears(q) & 1 << talker) != 0 && (reached & 1 << q) == 0) {
                    reached |= 1 << q;
                    todo.push(q);
                }
            }
        }
        return reached;
    }

    int alike(int a, int b) {
        if (a < 0 || a >= people.size() || b < NONE || b >= people.size()) {
            return NONE;
        }
        if (b != NONE) {
            return apart(people.get(a).rank, people.get(b).rank);
        }
        int nearest = NONE;
        for (int q = people.size() - 1; q >= 0; q--) {
            if (q != a && !people.get(q).over && (nearest == NONE || alike(a, q) <= alike(a, nearest))) {
                nearest = q;
            }
        }
        return nearest;
    }

    int middle(int what) {
        int best = NONE;
        int least = Integer.MAX_VALUE;
        for (int rank : RANKS) {
            int sum = 0;
            for (Person p : aboard(notOver())) {
                sum += apart(p.rank, digits(rank));
            }
            if (sum < least) {
                least = sum;
                best = rank;
            }
        }
        return what == 0 ? best : what == 1 ? least : NONE;
    }

    int seen(int land) {
        if (land == NONE) {
            seen.clear();
            return 0;
        }
        if (land < 0 || land > 5 || seen.size() == 20) {
            return NONE;
        }
        seen.add(land);
        return seen.size();
    }

    int began(int what) {
        List<Integer> found = new ArrayList<>();
        int[][] seasons = new int[6][];
        for (int land = 0; land <= 5; land++) {
            seasons[land] = seasonOf(land);
        }
        for (int couple = 0; couple < 600; couple++) {
            int land = couple / 100;
            int years = couple % 100;
            if (years == 99) {
                continue;
            }
            List<Integer> row = new ArrayList<>();
            while (row.size() < seen.size()) {
                row.add(land);
                years++;
                if (seasons[land] != null && years >= seasons[land][1]) {
                    land = seasons[land][2];
                    years = 0;
                }
            }
            if (row.equals(seen)) {
                found.add(couple);
            }
        }
        return what == 0 ? found.size() : what != 1 || found.isEmpty() ? NONE : found.get(0);
    }

    boolean bribe(int p, int v) {
        if (p < 0 || p > 11 || v < 0 || v > 99) {
            return false;
        }
        bribes[p] = v;
        return true;
    }

    int costs(int land, int what) {
        if (land < 1 || land > 5 || what < 0 || what > 1) {
            return NONE;
        }
        int least = NONE;
        int best = NONE;
        for (int set = 0; set < 1 << people.size(); set++) {
            int sum = 0;
            for (int p = 0; p < people.size(); p++) {
                sum += (set & 1 << p) != 0 ? bribes[p] : 0;
            }
            if ((set == 0 || rows(set)) && (least == NONE || sum < least)
                    && winner(laidBy(notOver(), set, land)) == land) {
                least = sum;
                best = set;
            }
        }
        return what == 0 ? least : best;
    }

    int game(int what) {
        List<Integer> heaps = new ArrayList<>();
        for (int p = 0; p < people.size(); p++) {
            heaps.add(people.get(p).over ? 0 : told("shells", p, people.get(p).talk));
        }
        if (what < 0 || what > 1) {
            return NONE;
        }
        for (int p = 0; p < heaps.size(); p++) {
            int heap = heaps.get(p);
            for (int n = 1; n <= heap; n++) {
                if (n == 1 || n == heap) {
                    List<Integer> rest = new ArrayList<>(heaps);
                    rest.set(p, heap - n);
                    if (!winsGame(rest)) {
                        return what == 0 ? p : n;
                    }
                }
            }
        }
        return NONE;
    }

    /** Whether who begins wins, played to the end; heaps in another order are the same game. */
    private static boolean winsGame(List<Integer> heaps) {
        List<Integer> game = new ArrayList<>(heaps);
        game.removeIf(h -> h == 0);
        game.sort(null);
        Boolean old = GAMES.get(game);
        if (old != null) {
            return old;
        }
        boolean wins = false;
        for (int i = 0; i < game.size() && !wins; i++) {
            for (int left : new int[] {game.get(i) - 1, 0}) {
                List<Integer> rest = new ArrayList<>(game);
                rest.set(i, left);
                wins |= !winsGame(rest);
            }
        }
        GAMES.put(game, wins);
        return wins;
    }

    boolean undo() {
        if (undos.isEmpty()) {
            return false;
        }
        copyActs(undos.removeLast());
        return true;
    }

    boolean image(boolean taken) {
        if (taken) {
            image = copy();
        } else if (image != null) {
            copyActs(image);
            copyTold(image);
            undos.clear();
        }
        return image != null;
    }

    int look(int what) {
        switch (what) {
            case 0: return people.size();
            case 1: return bank;
            case 2: return age;
            case 3: return stream;
            case 4: return minute;
            case 5: return crossed;
            case 6: return (1 << people.size()) - 1 - notOver();
            case 7: return book.size();
            case 8: return state;
            case 9: case 10: case 11: case 12: return lineCounts[what - 9];
            case 13: return seen.size();
            case 14: return undos.size();
            default: return NONE;
        }
    }

    int people() {
        return people.size();
    }
}
