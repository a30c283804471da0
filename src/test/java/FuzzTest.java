import java.util.ArrayList;
import java.util.List;
import java.util.Random;

/** Long runs of calls by chance, the same ones each time; the class is held against the plain Model. */
public final class FuzzTest {
    private static final int RUNS = 240;
    private static final int CALLS = 512;

    private final Random chance;
    private final int run;
    private final int most;
    private final VotedBank bank = new VotedBank();
    private final Model model = new Model();
    private int call;

    private FuzzTest(int run) {
        this.run = run;
        chance = new Random(7919L * run + 13);
        most = run % 8 == 0 ? 12 : 2 + chance.nextInt(6);
    }

    public static void main(String[] args) {
        int runs = args.length > 0 ? Integer.parseInt(args[0]) : RUNS;
        for (int run = 0; run < runs; run++) {
            new FuzzTest(run).go();
        }
        Due.end();
    }

    private void same(String what, long got, long want) {
        call++;
        Due.due("run " + run + ", call " + call + ": " + what, got, want);
    }

    private void same(String what, boolean got, boolean want) {
        same(what, got ? 1 : 0, want ? 1 : 0);
    }

    private int pick(int from, int to) {
        return from + chance.nextInt(to - from + 1);
    }

    private boolean oneIn(int n) {
        return chance.nextInt(n) == 0;
    }

    private String any(String... some) {
        return some[chance.nextInt(some.length)];
    }

    private int person() {
        return oneIn(15) ? pick(-2, 13) : chance.nextInt(Math.max(1, model.people()));
    }

    private int set() {
        int all = (1 << model.people()) - 1;
        if (oneIn(12)) {
            return oneIn(3) ? chance.nextInt() : pick(-1, 5000);
        }
        return (oneIn(3) ? all : chance.nextInt() & all) & ~(oneIn(8) ? 0 : model.look(6));
    }

    private int rank() {
        if (oneIn(25)) {
            return oneIn(2) ? chance.nextInt() : pick(11111, 55555);
        }
        List<Integer> left = new ArrayList<>(List.of(1, 2, 3, 4, 5));
        int rank = 0;
        while (!left.isEmpty()) {
            rank = 10 * rank + left.remove(chance.nextInt(left.size()));
        }
        return rank;
    }

    private void go() {
        int early = pick(1, most);
        for (int i = 0; i < early; i++) {
            board();
        }
        while (call < CALLS - 45) {
            int kind = chance.nextInt(100);
            if (kind < 3) {
                if (model.people() < most || oneIn(10)) {
                    board();
                }
            } else if (kind < 18) {
                tell();
            } else if (kind < 25) {
                change();
            } else if (kind < 45) {
                act();
            } else if (kind < 60) {
                askOfTold();
            } else {
                think();
            }
        }
        for (int i = -1; i <= 15; i++) {
            same("look(" + i + ")", bank.look(i), model.look(i));
        }
    }

    private void board() {
        int rank = rank();
        boolean child = chance.nextBoolean();
        int talk = oneIn(30) ? pick(-1, 10) : pick(0, 9);
        int firm = oneIn(30) ? pick(-1, 10) : pick(0, 9);
        same("passenger(" + rank + ", " + child + ", " + talk + ", " + firm + ")",
                bank.passenger(rank, child, talk, firm), model.passenger(rank, child, talk, firm));
    }

    // ---- texts

    private String number() {
        return "" + (oneIn(3) ? pick(0, 9999) : pick(0, 20));
    }

    private String unit() {
        return oneIn(3) ? number() : any("child", "talk", "firm", "waded", "turned", "bank", "age", "stream", "minute",
                "aboard", "for");
    }

    private String sum() {
        StringBuilder s = new StringBuilder(unit());
        while (oneIn(2)) {
            String sign = any("+", "-", "*", "*", "/");
            s.append(any("", " ")).append(sign).append(any("", " "));
            s.append(sign.equals("/") ? "" + pick(oneIn(9) ? 0 : 1, 30) : unit());
        }
        return s.toString();
    }

    private String condition(int depth) {
        if (oneIn(3) && depth < 10) {
            return oneIn(2) ? "not " + condition(depth + 1) : "(" + conditions(depth + 1) + ")";
        }
        return sum() + any("<", "=", ">", " < ", " = ") + sum();
    }

    private String conditions(int depth) {
        StringBuilder s = new StringBuilder(condition(depth));
        while (oneIn(3)) {
            s.append(any(" and ", " or ")).append(condition(depth));
        }
        return s.toString();
    }

    private String lawLine() {
        String word = any("sway", "abstain", "shells");
        String e = word.equals("shells") ? sum() : any("", "500+", "300 + 20*", "700-", "1000-30*") + sum();
        return word + " " + e + (oneIn(2) ? " when " + conditions(0) : "") + ";";
    }

    private String line(int k) {
        int n = Math.max(1, model.people());
        switch (k) {
            case 0: return lawLine();
            case 1: return "passenger " + chance.nextInt(n) + " hears " + pick(0, n - 1) + ";";
            case 2:
                StringBuilder s = new StringBuilder("row");
                int row = chance.nextInt(1 << n);
                int stays = oneIn(4) ? row & chance.nextInt() : 0;
                for (int p = 0; p < n; p++) {
                    s.append((row >> p & 1) == 1 ? " " + p : "");
                }
                s.append(stays == 0 ? "" : " stay");
                for (int p = n - 1; p >= 0; p--) {
                    s.append((stays >> p & 1) == 1 ? " " + p : "");
                }
                return s + any(";", " ;", ";\n");
            default: return "bank " + pick(0, 5) + " behind " + (oneIn(6) ? pick(0, 110) : pick(1, 6)) + " is "
                    + pick(0, oneIn(9) ? 6 : 5) + ";";
        }
    }

    private String spoiled(String s) {
        if (s.isEmpty()) {
            return "?";
        }
        int at = chance.nextInt(s.length());
        switch (chance.nextInt(4)) {
            case 0: return s.substring(0, at);
            case 1: return s.substring(0, at) + s.substring(at + 1);
            case 2: return s.substring(0, at) + (char) pick(0, 255) + s.substring(at);
            default: return s.substring(0, at)
                    + any("not ", "(", ")", ";", "0", "12345", " when ", "7", "stay", "X", "\n", "/", "=") + s.substring(at);
        }
    }

    private void tell() {
        int k = oneIn(40) ? pick(-1, 5) : chance.nextInt(4);
        StringBuilder s = new StringBuilder();
        int lines = oneIn(15) ? 17 : pick(0, k == 0 ? 6 : k == 1 ? 14 : 5);
        for (int i = 0; i < lines; i++) {
            String line = k == 0 && lines == 17 ? "sway " + unit() + ";" : line(k);
            if (s.length() + line.length() < 398) {
                s.append(line);
            }
        }
        String signs = oneIn(6) ? spoiled(s.toString()) : s.toString();
        for (int at = 0; at < signs.length() || oneIn(30); at += 20) {
            int[] w = new int[5];
            for (int i = 0; i < 20; i++) {
                w[i / 4] = w[i / 4] << 8 | (at + i < signs.length() ? signs.charAt(at + i) & 255 : ' ');
            }
            same("feed", bank.feed(w[0], w[1], w[2], w[3], w[4]), model.feed(w[0], w[1], w[2], w[3], w[4]));
        }
        int end = oneIn(20) ? pick(-1, 420) : signs.length();
        same("end(" + end + ")", bank.end(end), model.end(end));
        same("text(" + k + ") '" + signs + "'", bank.text(k), model.text(k));
        same("fault(0) of '" + signs + "'", bank.fault(0), model.fault(0));
        same("fault(1) of '" + signs + "'", bank.fault(1), model.fault(1));
    }

    // ---- what is told and done

    private void change() {
        int what;
        switch (chance.nextInt(6)) {
            case 0:
                what = chance.nextInt();
                same("state", bank.state(what), model.state(what));
                break;
            case 1:
                int p = oneIn(9) ? pick(-1, 12) : pick(0, 11);
                int v = oneIn(9) ? pick(-1, 100) : pick(0, 6);
                same("bribe(" + p + ", " + v + ")", bank.bribe(p, v), model.bribe(p, v));
                break;
            case 2:
            case 3:
                int land = oneIn(5) ? pick(-2, 6) : model.look(1);
                same("seen(" + land + ")", bank.seen(land), model.seen(land));
                break;
            default:
                what = oneIn(15) ? pick(-1, 7) : pick(0, 5);
                int who = person();
                int to = what == 3 ? rank() : what == 2 ? (oneIn(4) ? pick(997, 1000) : pick(-1, 10))
                        : pick(oneIn(9) ? -1 : 0, what == 1 ? 6 : oneIn(9) ? 10 : 9);
                same("set(" + what + ", " + who + ", " + to + ")", bank.set(what, who, to), model.set(what, who, to));
        }
    }

    private void act() {
        int kind = chance.nextInt(20);
        if (kind < 9) {
            int set = set();
            same("cross(" + set + ")", bank.cross(set), model.cross(set));
        } else if (kind < 13) {
            int p = person();
            boolean is = oneIn(2);
            same("stay(" + p + ", " + is + ")", bank.stay(p, is), model.stay(p, is));
        } else if (kind < 15) {
            same("log()", bank.log(), model.log());
        } else if (kind < 18) {
            same("undo()", bank.undo(), model.undo());
        } else {
            boolean taken = oneIn(2);
            same("image(" + taken + ")", bank.image(taken), model.image(taken));
        }
    }

    // ---- questions

    private void askOfTold() {
        int what = pick(-1, 16);
        int p = person();
        switch (chance.nextInt(6)) {
            case 0:
                same("look(" + what + ")", bank.look(what), model.look(what));
                break;
            case 1:
                int i = pick(-1, Math.max(3, model.look(7)));
                int which = pick(oneIn(9) ? -1 : 0, oneIn(9) ? 4 : 3);
                same("book(" + i + ", " + which + ")", bank.book(i, which), model.book(i, which));
                break;
            case 2:
                int land = pick(-1, 6);
                same("season", bank.season(land, what % 3), model.season(land, what % 3));
                break;
            case 3:
                int q = person();
                same("sway(" + p + ", " + q + ")", bank.sway(p, q), model.sway(p, q));
                break;
            default:
                same("of(" + p + ", " + what % 11 + ")", bank.of(p, what % 11), model.of(p, what % 11));
        }
    }

    private void think() {
        int land = oneIn(12) ? pick(-1, 6) : pick(1, 5);
        int what = oneIn(12) ? pick(-1, 3) : pick(0, 1);
        int p = person();
        switch (chance.nextInt(13)) {
            case 0:
                int set = set();
                int which = pick(oneIn(20) ? -1 : 0, oneIn(20) ? 3 : 2);
                same("would(" + set + ", " + which + ")", bank.would(set, which), model.would(set, which));
                break;
            case 1: same("makes(" + land + ", " + what + ")", bank.makes(land, what), model.makes(land, what)); break;
            case 2: same("pivots(" + p + ")", bank.pivots(p), model.pivots(p)); break;
            case 3:
                int other = pick(oneIn(9) ? -1 : 1, oneIn(9) ? 6 : 5);
                same("beats(" + land + ", " + other + ")", bank.beats(land, other), model.beats(land, other));
                break;
            case 4:
            case 5:
                int w = oneIn(9) ? pick(-1, 30) : any("", "1", "2").isEmpty() ? what : pick(1, 2) * 10 + pick(1, 5);
                same("wins(" + w + ")", bank.wins(w), model.wins(w));
                break;
            case 6:
                int c = oneIn(9) ? pick(-1, 14) : pick(1, 12);
                same("boats(" + c + ", " + what + ")", bank.boats(c, what), model.boats(c, what));
                break;
            case 7: same("reaches(" + p + ")", bank.reaches(p), model.reaches(p)); break;
            case 8:
                int q = oneIn(2) ? -1 : person();
                same("alike(" + p + ", " + q + ")", bank.alike(p, q), model.alike(p, q));
                break;
            case 9: same("middle(" + what + ")", bank.middle(what), model.middle(what)); break;
            case 10: same("began(" + what + ")", bank.began(what), model.began(what)); break;
            case 11: same("costs(" + land + ", " + what + ")", bank.costs(land, what), model.costs(land, what)); break;
            default: same("game(" + what + ")", bank.game(what), model.game(what));
        }
    }
}
