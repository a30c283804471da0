import java.util.ArrayDeque;
import java.util.Arrays;
import java.util.Deque;

/** Boundary cases of what is thought: "Terms", part 4, and promises 16 to 29 (would .. game). */
public final class ThoughtBoundsTest {
    private static final int NONE = VotedBank.NONE;
    private static final int[] FIRST = {0, 12345, 21345, 31245, 41235, 51234};

    private ThoughtBoundsTest() {
    }

    public static void main(String[] args) {
        wouldFrom500();
        wouldOfSets();
        wouldByATie();
        wouldAsThingsAre();
        crossBehindAThought();
        nowNobodyTalks();
        nowShellsOfAll();
        makesByOne();
        pivotsOfSets();
        pivotsOfTwelve();
        beatsOfLands();
        championBeatsEach();
        lastIsLeftOver();
        pointsOfLands();
        putInOrder();
        winsWhat();
        boatsOfOneLand();
        crossingsOfC();
        reachesAlong();
        alikeFrom0To10();
        nearestOfOthers();
        middleOfRanks();
        seenUpTo20();
        beganAges();
        beganByRounds();
        bribesFrom0To99();
        costsOfMore();
        costsOfSeveral();
        gameOfHeaps();
        gameOfSeveral();
        Due.end();
    }

    private static VotedBank bank(int... ranks) {
        VotedBank x = new VotedBank();
        for (int rank : ranks) {
            x.passenger(rank, false, 5, 0);
        }
        return x;
    }

    /** Passengers that have these lands first, with as many shells each. */
    private static VotedBank shells(int[] lands, int... shells) {
        VotedBank x = new VotedBank();
        for (int p = 0; p < shells.length; p++) {
            x.passenger(FIRST[lands[p]], false, 0, shells[p]);
        }
        Due.tells(x, 0, "shells firm;", 1);
        return x;
    }

    private static int[] alike(int n, int land) {
        int[] lands = new int[n];
        Arrays.fill(lands, land);
        return lands;
    }

    // ---- would

    private static void wouldFrom500() {
        Due.about("Promise 16, would: he is turned, abstains, if sway, abstain are 500 at least");
        for (int likely : new int[] {0, 1, 499, 500, 501, 1000}) {
            int is = likely >= 500 ? 1 : 0;
            VotedBank x = bank(12345, 21345);
            Due.tells(x, 1, "passenger 0 hears 1;", 1);
            Due.tells(x, 0, "sway " + likely + ";", 1);
            Due.due("turnings by sway " + likely, x.would(3, 2), is);
            Due.due("BANK by sway " + likely, x.would(3, 0), is == 1 ? 2 : 0);
            Due.due("shells by sway " + likely, x.would(3, 1), is == 1 ? 4 : 0);
            Due.tells(x, 0, "sway 0;abstain " + likely + ";", 2);
            Due.due("BANK by abstain " + likely, x.would(1, 0), 1 - is);
            Due.due("shells by abstain " + likely, x.would(1, 1), 2 - 2 * is);
            Due.due("no draws", x.look(8), 0);
            Due.due("nothing stays", x.of(0, 0) + x.of(0, 5) + x.of(0, 6) + x.look(7), 12345);
        }
    }

    private static void wouldOfSets() {
        Due.about("Promise 16, would a set of those not OVER vote");
        VotedBank x = bank(12345, 21345, 12345, 12345, 12345, 12345, 12345, 12345, 12345, 12345, 12345, 31245);
        Due.due("the first", x.would(1, 0), 1);
        Due.due("the last", x.would(2048, 0), 3);
        Due.due("all twelve", x.would(4095, 1), 20);
        Due.due("nobody", x.would(0, 0), NONE);
        Due.due("a thirteenth", x.would(4096, 0), NONE);
        x.stay(11, true);
        Due.due("one over", x.would(2048, 0), NONE);
        Due.due("one over with others", x.would(4095, 2), NONE);
        Due.due("the others", x.would(2047, 2), 0);
        x.stay(11, false);
        Due.due("brought back", x.would(2048, 1), 2);
        for (int what : new int[] {-1, 3}) {
            Due.due("another what", x.would(1, what), NONE);
        }
        Due.tells(x, 3, "bank 1 behind 1 is 5;", 1);
        x.set(1, 0, 1);
        x.set(2, 0, 98);
        Due.due("SEASONS aside", x.would(1, 0), 1);
        // In each of three minutes the one is turned to the other's and he to the one's: as long as they differ.
        Due.tells(x, 1, "passenger 0 hears 1;passenger 1 hears 0;passenger 11 hears 0;", 3);
        Due.tells(x, 0, "sway 500;", 1);
        Due.due("turnings", x.would(3, 2), 1);
        Due.due("turnings of three", x.would(2051, 2), 2);
    }

    private static void wouldByATie() {
        Due.about("Terms 4, shells for it (0: mud by a tie)");
        VotedBank x = shells(new int[] {1, 2, 3}, 4, 4, 0);
        Due.due("a tie", x.would(3, 1), 0);
        Due.due("a tie", x.would(3, 0), 0);
        Due.due("no shells", x.would(4, 1), 0);
        Due.due("no shells", x.would(4, 0), 0);
        Due.due("no tie", x.would(5, 1), 4);
    }

    private static void wouldAsThingsAre() {
        Due.about("Promise 16, would: as CHILD, TALK, FIRM, WADED, TURNED, BANK, AGE, STREAM are");
        VotedBank x = new VotedBank();
        x.passenger(12345, true, 4, 7);
        Due.due("shells of a child", x.would(1, 1), 1);
        String[] words = {"child", "talk", "firm", "waded", "turned", "bank", "age", "stream", "minute", "aboard", "for"};
        int[] first = {1, 4, 7, 0, 0, 0, 0, 0, 3, 1, 1};
        for (int i = 0; i < words.length; i++) {
            Due.tells(x, 0, "shells " + words[i] + ";", 1);
            Due.due(words[i], x.would(1, 1), first[i]);
        }
        x.passenger(21345, false, 0, 0);
        Due.tells(x, 1, "passenger 0 hears 1;", 1);
        Due.tells(x, 0, "sway 1000;abstain 1000 when turned=1;", 2);
        x.cross(3);
        x.set(0, 0, 6);
        x.set(1, 0, 5);
        x.set(2, 0, 8);
        x.set(4, 0, 2);
        x.set(5, 0, 3);
        int[] then = {1, 2, 3, 1, 1, 5, 8, 6, 9, 1, 1};
        for (int i = 0; i < words.length; i++) {
            Due.tells(x, 0, "abstain 0;shells " + words[i] + ";", 2);
            Due.due(words[i] + " then", x.would(1, 1), then[i]);
        }
    }

    private static void crossBehindAThought() {
        Due.about("Terms 4, a CROSSING behind a thought is done, and by DRAWS");
        VotedBank x = bank(12345, 21345);
        Due.tells(x, 1, "passenger 0 hears 1;", 1);
        Due.tells(x, 0, "sway 564 when minute=0;sway 0;", 2);
        Due.due("would", x.would(3, 2), 1);
        Due.due("cross", x.cross(3), 2);
        Due.due("crossed", x.look(5), 1);
        Due.due("drawn", x.look(8) != 0, true);
        Due.due("rank", x.of(0, 0), 21345);
        x.undo();
        Due.tells(x, 0, "sway 563 when minute=0;sway 0;", 2);
        Due.due("would be turned", x.would(3, 2), 1);
        Due.due("is not", x.cross(3), 0);
        Due.due("thought again", x.would(3, 2), 1);
    }

    // ---- now

    private static void nowNobodyTalks() {
        Due.about("Terms 4, NOW: RANKS are as they are; nobody talks, nobody abstains");
        VotedBank x = bank(12345, 21345, 31245);
        Due.tells(x, 1, "passenger 0 hears 1;passenger 2 hears 1;", 2);
        Due.tells(x, 0, "sway 1000;abstain 1000;", 2);
        Due.due("makes", x.makes(1, 1), 1);
        Due.due("pivots", x.pivots(0), 3);
        Due.due("beats", x.beats(1, 2), 2);
        Due.due("points", x.wins(11), 2 * (4 + 3 + 3));
        Due.due("boats", x.boats(12, 0), 3);
        Due.due("costs", x.costs(1, 1), 2);
        Due.due("game", x.game(0), 0);
    }

    private static void nowShellsOfAll() {
        Due.about("Terms 4, NOW: shells with minute 0, aboard and for of all not OVER");
        VotedBank x = bank(12345, 12345, 21345, 21345);
        x.stay(3, true);
        Due.tells(x, 0, "shells minute*9+aboard*2+for;", 1);
        Due.due("8, 8 against 7", x.beats(1, 2), 9);
        Due.due("points of 1", x.wins(11), 4 * 8 + 4 * 8 + 3 * 7);
        x.set(0, 0, 9);
        Due.due("the stream is not asked", x.beats(1, 2), 9);
        Due.tells(x, 0, "shells aboard-2;", 1);
        Due.due("one alone has shells as of all three", x.makes(2, 1), 4);
        x.stay(2, true);
        Due.due("of two none has shells", x.makes(1, 0), NONE);
    }

    private static void makesByOne() {
        Due.about("Promise 17, makes");
        VotedBank x = shells(new int[] {1, 5, 2, 5, 3}, 9, 0, 1, 1, 0);
        Due.due("how many for 1", x.makes(1, 0), 1);
        Due.due("the set for 1", x.makes(1, 1), 1);
        Due.due("how many for 2", x.makes(2, 0), 1);
        Due.due("the set for 2", x.makes(2, 1), 4);
        Due.due("by none that has shells", x.makes(3, 0), NONE);
        Due.due("by none that has shells", x.makes(3, 1), NONE);
        Due.due("by none at all", x.makes(4, 0), NONE);
        Due.due("the set for 5: the first has no shells", x.makes(5, 1), 8);
        Due.due("no LAND 0", x.makes(0, 0), NONE);
        Due.due("no LAND 6", x.makes(6, 0), NONE);
        Due.due("another what", x.makes(1, -1), NONE);
        Due.due("another what", x.makes(1, 2), NONE);
        x.stay(0, true);
        Due.due("who is over does not count", x.makes(1, 0), NONE);
        VotedBank y = bank(12345, 12345, 12345);
        Due.due("of several the least", y.makes(1, 1), 1);
        y.stay(0, true);
        Due.due("of several not over the least", y.makes(1, 1), 2);
        Due.due("nobody", new VotedBank().makes(1, 0), NONE);
        VotedBank twelve = shells(alike(12, 1), 0, 0, 0, 0, 0, 0, 0, 0, 0, 0, 0, 1);
        Due.due("the twelfth", twelve.makes(1, 1), 2048);
        Due.due("by none of twelve", twelve.makes(2, 1), NONE);
    }

    private static void pivotsOfSets() {
        Due.about("Promise 18, pivots: in how many sets of the others not OVER (nobody: mud)");
        VotedBank x = bank(12345);
        Due.due("alone: the set of nobody", x.pivots(0), 1);
        Due.tells(x, 0, "shells 0;", 1);
        Due.due("without shells", x.pivots(0), 0);
        Due.due("none such", x.pivots(1), NONE);
        // Others: nobody (mud, 1), 1 of 3 shells (2, 2).
        VotedBank y = shells(new int[] {1, 2}, 2, 3);
        Due.due("2 against 3", y.pivots(0), 1);
        Due.due("3 against 2", y.pivots(1), 2);
        // Nobody (mud, 1), him (2, mud).
        VotedBank z = shells(new int[] {1, 2}, 3, 3);
        Due.due("3 against 3", z.pivots(0), 2);
        z.stay(1, true);
        Due.due("the other one is over", z.pivots(0), 1);
        Due.due("he is over", z.pivots(1), NONE);
        // Who has no shells doubles the sets: those without him, those with him.
        VotedBank idle = shells(new int[] {1, 2, 3}, 3, 3, 0);
        Due.due("one without shells among the others", idle.pivots(0), 4);
        Due.due("for himself", idle.pivots(2), 0);
    }

    private static void pivotsOfTwelve() {
        Due.about("Promise 18, pivots of twelve");
        VotedBank x = shells(alike(12, 1), 1, 1, 1, 1, 1, 1, 1, 1, 1, 1, 1, 1);
        Due.due("all alike: the set of nobody", x.pivots(11), 1);
        VotedBank y = shells(alike(12, 4), 0, 0, 0, 0, 0, 0, 0, 0, 0, 0, 0, 9);
        Due.due("he alone has shells: all sets", y.pivots(11), 2048);
        Due.due("an idle one", y.pivots(0), 0);
        // Eleven of 1 shell for 2, he has 9 for 1: all sets but those of 10 (2, 2) and 11 (2, 2) others.
        int[] lands = alike(12, 2);
        lands[0] = 1;
        VotedBank z = shells(lands, 9, 1, 1, 1, 1, 1, 1, 1, 1, 1, 1, 1);
        Due.due("9 against up to 11", z.pivots(0), 2048 - 11 - 1);
        // One of them: nobody of 11 (mud, 2), the 9 with 8 (1, mud), with 9 of the ten (mud, 2).
        Due.due("1 beside ten and against 9", z.pivots(1), 1 + 45 + 10);
    }

    private static void beatsOfLands() {
        Due.about("Promise 19, beats");
        VotedBank x = shells(new int[] {1, 5, 1}, 9, 4, 5);
        Due.due("beats(1, 5): 9 and 5 less 4", x.beats(1, 5), 10);
        Due.due("beats(5, 1)", x.beats(5, 1), -10);
        x.stay(0, true);
        Due.due("who is over has no say", x.beats(1, 5), 1);
        x.stay(2, true);
        Due.due("below 0", x.beats(1, 5), -4);
        x.stay(1, true);
        Due.due("nobody", x.beats(1, 5), 0);
        VotedBank all = shells(alike(12, 1), 9, 9, 9, 9, 9, 9, 9, 9, 9, 9, 9, 9);
        Due.due("the most", all.beats(1, 2), 108);
        Due.due("the least", all.beats(2, 1), -108);
        Due.due("the least of those behind", all.beats(5, 4), -108);
        for (int land : new int[] {-1, 0, 6}) {
            Due.due("can't be", all.beats(land, 1), NONE - 999);
            Due.due("can't be", all.beats(1, land), NONE - 999);
        }
        for (int land = 0; land <= 6; land++) {
            Due.due("alike", all.beats(land, land), NONE - 999);
        }
    }

    private static void championBeatsEach() {
        Due.about("Promise 20, wins(0): the LAND that beats each other one (above 0)");
        Due.due("nobody", new VotedBank().wins(0), NONE);
        for (int land = 1; land <= 5; land++) {
            Due.due("one alone", bank(FIRST[land]).wins(0), land);
        }
        Due.due("alike is not above 0", bank(12345, 21345).wins(0), NONE);
        Due.due("by one shell", shells(new int[] {1, 2}, 3, 4).wins(0), 2);
        Due.due("without shells", shells(new int[] {1, 2}, 0, 0).wins(0), NONE);
        Due.due("one with, one without", shells(new int[] {1, 5}, 0, 1).wins(0), 5);
        Due.due("a round", bank(12345, 23145, 31245).wins(0), NONE);
        // 3 is nobody's first, but ahead of each other one for two of three.
        Due.due("nobody's first", bank(13245, 23145, 43215).wins(0), 3);
        VotedBank x = bank(12345, 21345);
        x.stay(0, true);
        Due.due("who is over has no say", x.wins(0), 2);
    }

    private static void lastIsLeftOver() {
        Due.about("Promise 20, wins(1): fewest shells first goes (of several the greatest number)");
        Due.due("nobody", new VotedBank().wins(1), NONE);
        VotedBank over = bank(12345);
        over.stay(0, true);
        Due.due("nobody who is not over", over.wins(1), NONE);
        Due.due("without shells", shells(new int[] {5}, 0).wins(1), 1);
        Due.due("1 and 2 alike: 2 goes", bank(12345, 21345).wins(1), 1);
        Due.due("4 and 5 alike: 5 goes", bank(41235, 51234).wins(1), 4);
        Due.due("5 by one shell", shells(new int[] {4, 5}, 3, 4).wins(1), 5);
        // 4 3 2 first: 5, 1 go (none), then 2's goes to 3: 5 against 4.
        Due.due("what is led on", bank(43215, 43215, 32145, 32145, 23145).wins(1), 3);
        // Of 1, 2, 3 alike 3 goes, to 2; then 1 goes.
        Due.due("led on behind a tie", bank(12345, 23145, 32145).wins(1), 2);
        // 6 for 1, 5 for 2, 2 that go from 3 by way of 4 and 5, which are gone, to the one or the other.
        for (int rank : new int[] {31245, 34125, 34512, 35412, 32145, 34215, 34521, 35421}) {
            VotedBank x = shells(new int[] {1, 2, 3}, 6, 5, 2);
            x.set(3, 2, rank);
            boolean toOne = ("" + rank).indexOf('1') < ("" + rank).indexOf('2');
            Due.due("led on by " + rank, x.wins(1), toOne ? 1 : 2);
        }
    }

    private static void pointsOfLands() {
        Due.about("Promise 20, wins(10 + l): 4 for the first, 3, 2, 1, 0, times shells");
        VotedBank x = shells(new int[] {3}, 9);
        int[] points = {27, 18, 36, 9, 0};
        for (int land = 1; land <= 5; land++) {
            Due.due("POINTS of " + land, x.wins(10 + land), points[land - 1]);
            Due.due("nobody", new VotedBank().wins(10 + land), 0);
        }
        VotedBank all = shells(alike(12, 5), 9, 9, 9, 9, 9, 9, 9, 9, 9, 9, 9, 9);
        Due.due("the most", all.wins(15), 432);
        Due.due("the least", all.wins(14), 0);
        all.stay(11, true);
        Due.due("of those not over", all.wins(15), 396);
    }

    private static void putInOrder() {
        Due.about("Promise 20, wins(20 + l): PUT (alike: the one put earlier); NONE: never");
        for (int land = 1; land <= 5; land++) {
            Due.due("all alike", new VotedBank().wins(20 + land), FIRST[land]);
            for (int first = 1; first <= 5; first++) {
                Due.due("one alone", bank(FIRST[first]).wins(20 + land), first == land ? 12345 : NONE);
            }
        }
        // 1 and 2 are alike, both beat the others.
        VotedBank x = bank(12345, 21345);
        Due.due("1 put earlier", x.wins(21), 12345);
        Due.due("2 put earlier", x.wins(22), 21345);
        Due.due("never", x.wins(23), NONE);
        // 1 beats 2, 2 beats 3, 3 beats 1: who comes last of the three wins, or meets but whom he beats.
        VotedBank round = bank(12345, 23145, 31245);
        Due.due("1 last", round.wins(21), 23145);
        Due.due("2 last", round.wins(22), 13245);
        Due.due("3 last", round.wins(23), 12345);
        VotedBank byOne = shells(new int[] {1, 2}, 3, 4);
        Due.due("by one shell", byOne.wins(22), 12345);
        Due.due("by one shell: never", byOne.wins(21), NONE);
    }

    private static void winsWhat() {
        Due.about("Promise 20, wins: NONE if there is none such, or another what");
        VotedBank x = bank(12345, 12345);
        for (int what = -3; what <= 33; what++) {
            boolean asked = what == 0 || what == 1 || what >= 11 && what <= 15 || what == 21;
            Due.due("wins(" + what + ")", x.wins(what) != NONE, asked);
        }
    }

    // ---- boats

    private static void boatsOfOneLand() {
        Due.about("Promise 21, boats(c, 0): c 1 .. 12; nobody: 0");
        for (int n = 0; n <= 12; n++) {
            VotedBank x = bank();
            for (int p = 0; p < n; p++) {
                x.passenger(54321, false, 0, 0);
            }
            for (int c = 1; c <= 12; c++) {
                int boats = 0;
                while (boats * c < n) {
                    boats++;
                }
                Due.due(n + " of one LAND by " + c, x.boats(c, 0), boats);
            }
            Due.due("c 0", x.boats(0, 0), NONE);
            Due.due("c 13", x.boats(13, 0), NONE);
        }
        VotedBank x = bank(12345, 12345, 12345, 21345, 21345, 31245, 12345);
        Due.due("4, 2, 1 by 2", x.boats(2, 0), 4);
        Due.due("4, 2, 1 by 3", x.boats(3, 0), 4);
        Due.due("4, 2, 1 by 4", x.boats(4, 0), 3);
        x.stay(6, true);
        Due.due("3, 2, 1 by 3", x.boats(3, 0), 3);
        Due.due("without shells they need one", shells(new int[] {1, 2}, 0, 0).boats(12, 0), 2);
    }

    private static void crossingsOfC() {
        Due.about("Promise 21, boats(c, 1): c 2 .. 12; alone: 1; nobody: 0");
        for (int n = 0; n <= 12; n++) {
            VotedBank x = bank();
            for (int p = 0; p < n; p++) {
                x.passenger(p % 2 == 0 ? 54321 : 12345, false, 0, 0);
            }
            for (int c = 2; c <= 12; c++) {
                Due.due(n + " by " + c, x.boats(c, 1), fewestCrossings(n, c));
            }
            Due.due(n + " by 1", x.boats(1, 1), n <= 1 ? n : NONE);
            Due.due("c 0", x.boats(0, 1), NONE);
            Due.due("c 13", x.boats(13, 1), NONE);
            Due.due("another what", x.boats(2, 2), NONE);
            Due.due("another what", x.boats(2, -1), NONE);
        }
        VotedBank x = bank(12345, 12345, 12345);
        x.stay(1, true);
        Due.due("those not over", x.boats(2, 1), 1);
        x.stay(0, true);
        Due.due("alone", x.boats(1, 1), 1);
        x.stay(2, true);
        Due.due("nobody", x.boats(2, 1), 0);
    }

    /** All ways to row are tried: any number of at most c there, any back. */
    private static int fewestCrossings(int n, int c) {
        int[][] steps = new int[n + 1][2];
        Deque<int[]> todo = new ArrayDeque<>();
        todo.add(new int[] {n, 0});
        while (!todo.isEmpty()) {
            int[] at = todo.remove();
            if (at[0] == 0) {
                return steps[0][at[1]];
            }
            int there = at[1] == 0 ? at[0] : n - at[0];
            for (int row = 1; row <= Math.min(c, there); row++) {
                int left = at[1] == 0 ? at[0] - row : at[0] + row;
                int side = 1 - at[1];
                if (steps[left][side] == 0 && !(left == n && side == 0)) {
                    steps[left][side] = steps[at[0]][at[1]] + 1;
                    todo.add(new int[] {left, side});
                }
            }
        }
        return NONE;
    }

    // ---- passengers among each other

    private static void reachesAlong() {
        Due.about("Promise 22, reaches (himself not, but by a round)");
        VotedBank x = new VotedBank();
        for (int p = 0; p < 12; p++) {
            x.passenger(12345, false, 0, 0);
        }
        Due.due("nobody hears", x.reaches(0), 0);
        StringBuilder chain = new StringBuilder();
        for (int p = 1; p < 12; p++) {
            chain.append("passenger ").append(p).append(" hears ").append(p - 1).append(";");
        }
        Due.tells(x, 1, chain.toString(), 11);
        for (int p = 0; p < 12; p++) {
            Due.due("all behind " + p, x.reaches(p), 4095 & ~((2 << p) - 1));
        }
        Due.tells(x, 1, chain + "passenger 0 hears 11;", 12);
        for (int p = 0; p < 12; p++) {
            Due.due("a round", x.reaches(p), 4095);
        }
        Due.tells(x, 1, "passenger 0 hears 1;passenger 1 hears 0;passenger 2 hears 1;passenger 4 hears 3;", 4);
        Due.due("a round of two, and one more", x.reaches(0), 7);
        Due.due("out of the round", x.reaches(2), 0);
        Due.due("one", x.reaches(3), 16);
        x.stay(4, true);
        x.stay(3, true);
        Due.due("over or not", x.reaches(3), 16);
        Due.due("none such", x.reaches(12), NONE);
        Due.due("none such", x.reaches(-1), NONE);
    }

    private static void alikeFrom0To10() {
        Due.about("Promise 23, alike");
        int[] ranks = {12345, 12354, 21345, 13254, 23451, 51234, 54312, 54321};
        int[] apart = {0, 1, 1, 2, 4, 4, 9, 10};
        VotedBank x = bank(ranks);
        for (int p = 0; p < ranks.length; p++) {
            Due.due("12345 and " + ranks[p], x.alike(0, p), apart[p]);
            Due.due(ranks[p] + " and 12345", x.alike(p, 0), apart[p]);
            Due.due("himself", x.alike(p, p), 0);
        }
        x.stay(7, true);
        Due.due("over or not", x.alike(0, 7), 10);
        Due.due("none such", x.alike(0, 8), NONE);
        Due.due("none such", x.alike(8, 0), NONE);
        Due.due("none such", x.alike(-1, 0), NONE);
        Due.due("none such", x.alike(0, -2), NONE);
        Due.due("none such", x.alike(8, NONE), NONE);
    }

    private static void nearestOfOthers() {
        Due.about("Promise 23, NEAREST (b NONE; NONE: no other one)");
        VotedBank x = bank(12345);
        Due.due("no other one", x.alike(0, NONE), NONE);
        x.passenger(54321, false, 0, 0);
        Due.due("the only other one", x.alike(0, NONE), 1);
        Due.due("the only other one", x.alike(1, NONE), 0);
        x.passenger(54321, false, 0, 0);
        Due.due("of several the least", x.alike(0, NONE), 1);
        Due.due("not himself", x.alike(1, NONE), 2);
        x.passenger(54312, false, 0, 0);
        Due.due("by one couple", x.alike(0, NONE), 3);
        x.stay(3, true);
        Due.due("not over", x.alike(0, NONE), 1);
        Due.due("of one who is over", x.alike(3, NONE), 1);
        x.stay(1, true);
        x.stay(2, true);
        Due.due("all others are over", x.alike(0, NONE), NONE);
        Due.due("of one who is over", x.alike(3, NONE), 0);
    }

    private static void middleOfRanks() {
        Due.about("Promise 24, middle: any of all 120; of several the least");
        VotedBank none = new VotedBank();
        Due.due("nobody", none.middle(0), 12345);
        Due.due("nobody", none.middle(1), 0);
        int ranks = 0;
        for (int rank = 12345; rank <= 54321; rank++) {
            VotedBank alone = bank(rank);
            if (alone.look(0) == 1) {
                ranks++;
                Due.due("one alone", alone.middle(0), rank);
                Due.due("one alone", alone.middle(1), 0);
            }
        }
        Due.due("all of them", ranks, 120);
        VotedBank x = bank(54321, 12345);
        Due.due("two against each other: any does", x.middle(0), 12345);
        Due.due("ten couples", x.middle(1), 10);
        x.passenger(54321, false, 0, 0);
        Due.due("two of three", x.middle(0), 54321);
        Due.due("ten couples", x.middle(1), 10);
        x.stay(0, true);
        x.stay(1, true);
        Due.due("not over", x.middle(1), 0);
        VotedBank all = new VotedBank();
        for (int p = 0; p < 12; p++) {
            all.passenger(p < 6 ? 12345 : 54321, false, 0, 0);
        }
        Due.due("six against six", all.middle(0), 12345);
        Due.due("sixty couples", all.middle(1), 60);
        Due.due("another what", all.middle(-1), NONE);
        Due.due("another what", all.middle(2), NONE);
    }

    // ---- seen

    private static void seenUpTo20() {
        Due.about("Promise 25, seen");
        VotedBank x = new VotedBank();
        Due.due("nothing is, of nothing", x.seen(NONE), 0);
        for (int i = 1; i <= 20; i++) {
            Due.due("seen " + i, x.seen(i % 2 == 0 ? 0 : 5), i);
        }
        Due.due("a 21st", x.seen(0), NONE);
        Due.due("a 21st", x.seen(5), NONE);
        Due.due("there are twenty", x.look(13), 20);
        Due.due("nothing is then", x.seen(NONE), 0);
        Due.due("none", x.look(13), 0);
        Due.due("LAND 6", x.seen(6), NONE);
        Due.due("LAND -2", x.seen(-2), NONE);
        Due.due("none", x.look(13), 0);
        Due.due("LAND 0", x.seen(0), 1);
        Due.due("LAND 5", x.seen(5), 2);
    }

    private static void beganAges() {
        Due.about("Promise 26, began: LANDS 0 .. 5 and ages 0 .. 98");
        VotedBank x = new VotedBank();
        Due.due("nothing seen: all couples", x.began(0), 594);
        Due.due("nothing seen: the least", x.began(1), 0);
        for (int land = 0; land <= 5; land++) {
            x.seen(NONE);
            x.seen(land);
            Due.due("one of a LAND", x.began(0), 99);
            Due.due("the least", x.began(1), 100 * land);
        }
        x.seen(4);
        Due.due("without SEASONS no LAND becomes another", x.began(0), 0);
        Due.due("none is the least", x.began(1), NONE);
        Due.tells(x, 3, "bank 5 behind 99 is 4;", 1);
        Due.due("from age 98 alone", x.began(0), 1);
        Due.due("from age 98 alone", x.began(1), 598);
        Due.tells(x, 3, "bank 5 behind 98 is 4;", 1);
        Due.due("from 97 and 98", x.began(0), 2);
        Due.due("from 97", x.began(1), 597);
        Due.tells(x, 3, "bank 5 behind 1 is 4;", 1);
        Due.due("from all ages", x.began(0), 99);
        Due.due("from 0", x.began(1), 500);
        x.seen(NONE);
        x.seen(5);
        Due.due("the first told is BANK at the beginning, whatever its age", x.began(0), 99);
        x.seen(5);
        Due.due("it does not stay", x.began(0), 0);
        Due.tells(x, 3, "bank 5 behind 99 is 4;", 1);
        Due.due("it stays from 0 .. 97", x.began(0), 98);
        Due.due("another what", x.began(-1), NONE);
        Due.due("another what", x.began(2), NONE);
    }

    private static void beganByRounds() {
        Due.about("Terms 4, BEGAN: AGE one more, then SEASONS");
        VotedBank x = new VotedBank();
        Due.tells(x, 3, "bank 1 behind 2 is 2;bank 2 behind 3 is 1;bank 1 behind 1 is 5;bank 0 behind 1 is 0;", 4);
        // From 1 at age 0: 1 1 2 2 2 1 1 2 2 2 1 ..
        int[] row = {1, 1, 2, 2, 2, 1, 1, 2, 2, 2, 1, 1, 2, 2, 2, 1, 1, 2, 2, 2};
        for (int i = 0; i < row.length; i++) {
            x.seen(row[i]);
            Due.due("couples behind " + (i + 1), x.began(0), i == 0 ? 99 : 1);
            Due.due("the least behind " + (i + 1), x.began(1), 100);
        }
        x.seen(NONE);
        for (int i = 0; i < 4; i++) {
            x.seen(0);
        }
        Due.due("mud becomes mud", x.began(0), 99);
        x.seen(NONE);
        x.seen(2);
        x.seen(1);
        Due.due("2 from age 2 on", x.began(0), 97);
        Due.due("2 from age 2 on", x.began(1), 202);
        x.seen(1);
        x.seen(1);
        Due.due("not three of 1", x.began(0), 0);
        Due.due("AGE and BANK are not asked", x.set(1, 0, 4) && x.began(0) == 0, true);
    }

    // ---- bribes

    private static void bribesFrom0To99() {
        Due.about("Promise 27, bribe: 0 .. 99 (1 at first), PASSENGERS 0 .. 11");
        for (int p = 0; p < 12; p++) {
            int[] shells = new int[12];
            shells[p] = 1;
            VotedBank x = shells(alike(12, 1), shells);
            Due.due("1 at first", x.costs(2, 0), 1);
            Due.due("whom", x.costs(2, 1), 1 << p);
            for (int v : new int[] {0, 99, 98}) {
                Due.due("bribe(" + p + ", " + v + ")", x.bribe(p, v), true);
                Due.due("costs", x.costs(2, 0), v);
                Due.due("of others it is not asked", x.bribe(p == 0 ? 1 : 0, 7) && x.costs(2, 0) == v, true);
            }
            Due.due("-1", x.bribe(p, -1), false);
            Due.due("100", x.bribe(p, 100), false);
            Due.due("as it was", x.costs(2, 0), 98);
        }
        VotedBank x = new VotedBank();
        Due.due("one that is not there yet", x.bribe(11, 5), true);
        Due.due("a thirteenth", x.bribe(12, 5), false);
        Due.due("none", x.bribe(-1, 5), false);
        Due.due("one that is not there yet", x.bribe(0, 44), true);
        x.passenger(12345, false, 0, 0);
        Due.due("when he comes", x.costs(2, 0), 44);
    }

    private static void costsOfMore() {
        Due.about("Promise 28, costs: the least sum by which it has more shells than any other one");
        VotedBank x = shells(new int[] {1, 2, 2}, 3, 2, 1);
        // 3 against 3: one more is needed.
        Due.due("alike is not more", x.costs(1, 0), 1);
        Due.due("whom", x.costs(1, 1), 2);
        Due.due("for 2 as well", x.costs(2, 0), 1);
        Due.due("for 2 as well", x.costs(2, 1), 1);
        x.bribe(1, 99);
        Due.due("the cheaper one", x.costs(1, 1), 4);
        Due.due("3: the first, and one of the others", x.costs(3, 0), 2);
        Due.due("3: the first, and the third", x.costs(3, 1), 5);
        x.bribe(0, 0);
        x.bribe(2, 0);
        Due.due("for nothing", x.costs(3, 0), 0);
        Due.due("for nothing, but not nobody", x.costs(3, 1), 5);
        x.stay(0, true);
        Due.due("2 has more by itself", x.costs(2, 0), 0);
        Due.due("nobody", x.costs(2, 1), 0);
        for (int land : new int[] {-1, 0, 6}) {
            Due.due("no such LAND", x.costs(land, 0), NONE);
            Due.due("no such LAND", x.costs(land, 1), NONE);
        }
        Due.due("another what", x.costs(1, -1), NONE);
        Due.due("another what", x.costs(1, 2), NONE);
        Due.due("nobody is there", new VotedBank().costs(1, 0), NONE);
        Due.due("nobody is there", new VotedBank().costs(1, 1), NONE);
        VotedBank idle = shells(new int[] {1, 2}, 0, 0);
        Due.due("by none without shells", idle.costs(1, 0), NONE);
        Due.due("by none without shells", idle.costs(3, 1), NONE);
    }

    private static void costsOfSeveral() {
        Due.about("Promise 28, costs: whom: of several sets the least");
        VotedBank x = shells(alike(12, 1), 1, 1, 1, 1, 1, 1, 1, 1, 1, 1, 1, 1);
        Due.due("seven of twelve", x.costs(5, 0), 7);
        Due.due("the first seven", x.costs(5, 1), 127);
        for (int p = 0; p < 12; p++) {
            x.bribe(p, 99);
        }
        Due.due("99 each", x.costs(5, 0), 693);
        x.bribe(11, 98);
        Due.due("the last is cheaper", x.costs(5, 0), 692);
        Due.due("the first six and the last", x.costs(5, 1), 63 + 2048);
        // One set of one for 2, or another of two for 1 each: of the same sum the least number.
        VotedBank y = shells(new int[] {1, 1, 1}, 2, 2, 5);
        y.bribe(2, 2);
        Due.due("one of 5 for 2", y.costs(3, 0), 2);
        Due.due("whom", y.costs(3, 1), 4);
        VotedBank z = shells(new int[] {1, 1, 1, 2}, 3, 2, 5, 2);
        z.bribe(0, 1);
        z.bribe(1, 1);
        z.bribe(2, 2);
        Due.due("0 and 1 for 2, or 2 alone for 2", z.costs(2, 0), 2);
        Due.due("the least number", z.costs(2, 1), 3);
        VotedBank none = shells(new int[] {1, 1, 2}, 0, 3, 1);
        none.bribe(0, 0);
        Due.due("who has no shells is not asked", none.costs(2, 1), 2);
    }

    // ---- the game

    private static void gameOfHeaps() {
        Due.about("Promise 29, game of one heap");
        Due.due("nobody: who begins loses", new VotedBank().game(0), NONE);
        Due.due("nobody: who begins loses", new VotedBank().game(1), NONE);
        for (int heap = 0; heap <= 9; heap++) {
            VotedBank x = shells(new int[] {1}, heap);
            Due.due("of " + heap, x.game(0), heap == 0 ? NONE : 0);
            Due.due("of " + heap, x.game(1), heap == 0 ? NONE : heap);
            VotedBank y = shells(new int[] {1, 2}, heap, heap);
            Due.due("two of " + heap, y.game(0), NONE);
            Due.due("two of " + heap, y.game(1), NONE);
            y.stay(0, true);
            Due.due("who is over has none", y.game(0), heap == 0 ? NONE : 1);
        }
        VotedBank x = shells(new int[] {1}, 5);
        Due.due("another what", x.game(-1), NONE);
        Due.due("another what", x.game(2), NONE);
    }

    private static void gameOfSeveral() {
        Due.about("Promise 29, game: the PASSENGER (of several the least), how many (the fewest)");
        int[][] heaps = {{0, 3}, {1, 2}, {2, 1}, {3, 4}, {4, 3}, {1, 3}, {2, 4}, {1, 1, 1}, {2, 2, 1}, {1, 1, 2},
            {9, 8, 7}, {8, 8, 8}, {0, 0, 0, 6}, {1, 2, 3}, {0, 1, 2}, {0, 3, 4}, {0, 2, 2}, {0, 0, 1, 1}};
        for (int[] heap : heaps) {
            VotedBank x = shells(alike(heap.length, 1), heap);
            int who = NONE;
            int many = NONE;
            for (int p = heap.length - 1; p >= 0; p--) {
                for (int take : new int[] {heap[p], 1}) {
                    int[] left = heap.clone();
                    left[p] -= take;
                    if (heap[p] > 0 && !wins(left)) {
                        who = p;
                        many = take;
                    }
                }
            }
            Due.due("from whom of " + Arrays.toString(heap), x.game(0), who);
            Due.due("how many of " + Arrays.toString(heap), x.game(1), many);
        }
        VotedBank x = shells(new int[] {1, 1}, 3, 4);
        // 3 and 4: one of 3 leaves 2 and 4, which who begins loses; so do two heaps of one kind.
        Due.due("by hand: 1 of the first", x.game(0) * 10 + x.game(1), 1);
        VotedBank y = shells(new int[] {1, 1, 1}, 1, 1, 1);
        Due.due("by hand: of several the least", y.game(0), 0);
    }

    /** Whether who begins wins, by playing all games. */
    private static boolean wins(int[] heaps) {
        for (int p = 0; p < heaps.length; p++) {
            if (heaps[p] > 0) {
                int[] less = heaps.clone();
                less[p]--;
                int[] none = heaps.clone();
                none[p] = 0;
                if (!wins(less) || !wins(none)) {
                    return true;
                }
            }
        }
        return false;
    }
}
