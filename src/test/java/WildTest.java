import java.util.Random;

/** Calls with any numbers at all, in any order: none may throw. */
public final class WildTest {
    private static final int[] EDGES = {Integer.MIN_VALUE, Integer.MIN_VALUE + 1, -1000, -13, -2, -1, 0, 1, 2, 5, 6, 9,
        10, 11, 12, 13, 20, 26, 31, 32, 99, 100, 150, 400, 999, 4095, 4096, 12345, 54321, 65536, Integer.MAX_VALUE};

    private WildTest() {
    }

    public static void main(String[] args) {
        Random chance = new Random(4711);
        for (int run = 0; run < 300; run++) {
            VotedBank bank = new VotedBank();
            for (int call = 0; call < 400; call++) {
                if (call < run % 13) {
                    bank.passenger(call % 2 == 0 ? 12345 : 35142, chance.nextBoolean(), call % 10, 9 - call % 10);
                } else {
                    anyCall(bank, chance);
                }
            }
            Due.due("passengers", bank.look(0) <= 12 && bank.look(0) >= 0, true);
            Due.due("undoable", bank.look(14) <= 6, true);
        }
        Due.end();
    }

    private static int wild(Random chance) {
        int kind = chance.nextInt(10);
        return kind == 0 ? chance.nextInt() : kind < 4 ? EDGES[chance.nextInt(EDGES.length)] : chance.nextInt(14) - 1;
    }

    private static void anyCall(VotedBank x, Random chance) {
        int a = wild(chance);
        int b = wild(chance);
        int c = wild(chance);
        boolean is = chance.nextBoolean();
        switch (chance.nextInt(32)) {
            case 0: x.state(a); break;
            case 1: x.passenger(is ? 21435 : a, is, b, c); break;
            case 2: x.set(a, b, c); break;
            case 3: x.cross(a); break;
            case 4: x.stay(a, is); break;
            case 5: x.log(); break;
            case 6: x.feed(a, b, c, wild(chance), wild(chance)); break;
            case 7: x.end(a); break;
            case 8: x.text(a); break;
            case 9: x.fault(a); break;
            case 10: x.of(a, b); break;
            case 11: x.sway(a, b); break;
            case 12: x.season(a, b); break;
            case 13: x.book(a, b); break;
            case 14: x.would(a, b); break;
            case 15: x.makes(a, b); break;
            case 16: x.pivots(a); break;
            case 17: x.beats(a, b); break;
            case 18: x.wins(a); break;
            case 19: x.boats(a, b); break;
            case 20: x.reaches(a); break;
            case 21: x.alike(a, b); break;
            case 22: x.middle(a); break;
            case 23: x.seen(a); break;
            case 24: x.began(a); break;
            case 25: x.bribe(a, b); break;
            case 26: x.costs(a, b); break;
            case 27: x.game(a); break;
            case 28: x.undo(); break;
            case 29: x.image(is); break;
            case 30: x.look(a); break;
            default:
                x.end(0);
                Due.tell(x, chance.nextInt(4), is ? "row 0;" : "shells 9-for;");
        }
    }
}
