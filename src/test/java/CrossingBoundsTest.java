import java.math.BigInteger;

/** Boundary cases of "Terms": draws, part 1, the law of part 2, and part 3 (crossings, the log, the book). */
public final class CrossingBoundsTest {
    private static final int NONE = VotedBank.NONE;
    private static final int MIN = Integer.MIN_VALUE;
    private static final int MAX = Integer.MAX_VALUE;

    private CrossingBoundsTest() {
    }

    public static void main(String[] args) {
        stateWraps();
        drawsHaveNoSign();
        drawsFromNoughtTo999();
        agesUpTo999();
        lawWithoutLines();
        lawIsHeld();
        lawWraps();
        lawPartsTowardsNought();
        lawTakesTheFirstThatIsSo();
        lawJoins();
        lawKnowsTheOne();
        lawKnowsTheBoat();
        minutesOfACrossing();
        minutesOfTheLaw();
        whoTalks();
        whomOneHears();
        turningsOneByOne();
        rankBehindATurning();
        abstainAboveNought();
        everyoneAbstains();
        shellsBehindAllDraws();
        mostShells();
        agesByVotes();
        seasonsByAge();
        oneSeasonACrossing();
        firstSeasonOfALand();
        bookOfACrossing();
        bookUpTo150();
        logOfThoseNotOver();
        logStays();
        Due.end();
    }

    private static VotedBank bank(int... ranks) {
        VotedBank x = new VotedBank();
        for (int rank : ranks) {
            x.passenger(rank, false, 5, 0);
        }
        return x;
    }

    private static int next(int state) {
        return BigInteger.valueOf(state).multiply(BigInteger.valueOf(1664525)).add(BigInteger.valueOf(1013904223))
                .intValue();
    }

    private static int drawn(int state, int m) {
        BigInteger unsigned = BigInteger.valueOf(next(state)).mod(BigInteger.ONE.shiftLeft(32));
        return unsigned.shiftRight(8).mod(BigInteger.valueOf(m)).intValue();
    }

    /** The first state from which this is drawn of 1000. */
    private static int stateAheadOf(int draw) {
        int state = 0;
        while (drawn(state, 1000) != draw) {
            state++;
        }
        return state;
    }

    private static void line(VotedBank x, int i, int crossed, int what, int who, int which) {
        Due.due("book(" + i + ", 0)", x.book(i, 0), crossed);
        Due.due("book(" + i + ", 1)", x.book(i, 1), what);
        Due.due("book(" + i + ", 2)", x.book(i, 2), who);
        Due.due("book(" + i + ", 3)", x.book(i, 3), which);
    }

    // ---- draws

    private static void stateWraps() {
        Due.about("Promise 2, state, and Terms, a DRAW: STATE wraps");
        VotedBank x = bank(12345);
        Due.tells(x, 0, "abstain 1;", 1);
        int was = 0;
        for (int state : new int[] {0, 1, -1, MIN, MIN + 1, MAX, MAX - 1, 1 << 30, -775096599}) {
            Due.due("state(" + state + ")", x.state(state), was);
            Due.due("look(8)", x.look(8), state);
            x.cross(1);
            was = next(state);
            Due.due("behind a draw from " + state, x.look(8), was);
        }
        Due.due("state(5)", x.state(5), was);
        Due.due("the same again", x.state(5), 5);
        Due.due("from 0 by hand", next(0), 1013904223);
        Due.due("twice from 0 by hand", next(next(0)), 1196435762);
    }

    private static void drawsHaveNoSign() {
        Due.about("Terms, a DRAW: the highest 24 bits without sign");
        for (int state : new int[] {0, 1013904223, 1196435762, -775096599, 1, 3, -1, -7, MIN, MAX, 77, -123456789}) {
            int draw = drawn(state, 1000);
            VotedBank x = bank(12345);
            Due.tells(x, 0, "abstain " + draw + ";", 1);
            x.state(state);
            x.cross(1);
            Due.due("not below " + draw + " from " + state, x.of(0, 5), 0);
            Due.tells(x, 0, "abstain " + (draw + 1) + ";", 1);
            x.state(state);
            x.cross(1);
            Due.due("below " + (draw + 1) + " from " + state, x.of(0, 5), 1);
        }
    }

    private static void drawsFromNoughtTo999() {
        Due.about("Terms 3, a DRAW of 1000 below sway, below abstain");
        int[] draws = {0, 0, 999, 999, 1, 1};
        int[] likely = {0, 1, 999, 1000, 1, 2};
        for (int i = 0; i < draws.length; i++) {
            int state = stateAheadOf(draws[i]);
            VotedBank x = bank(12345, 21345);
            Due.tells(x, 1, "passenger 0 hears 1;", 1);
            Due.tells(x, 0, "sway " + likely[i] + " when minute=0;sway 0;", 2);
            x.state(state);
            x.cross(3);
            Due.due("sway " + likely[i] + ", drawn " + draws[i], x.of(0, 6), i % 2);
            VotedBank y = bank(12345);
            Due.tells(y, 0, "abstain " + likely[i] + ";", 1);
            y.state(state);
            y.cross(1);
            Due.due("abstain " + likely[i] + ", drawn " + draws[i], y.of(0, 5), i % 2);
            Due.due("a draw but of abstain 0", y.look(8), i == 0 ? state : next(state));
        }
    }

    private static void agesUpTo999() {
        Due.about("Terms 1, AGE 0 .. 999");
        VotedBank x = bank(12345, 21345);
        x.set(1, 0, 1);
        Due.due("set(2, 0, 997)", x.set(2, 0, 997), true);
        for (int age : new int[] {998, 999, 999, 999}) {
            Due.due("cross(1)", x.cross(1), 1);
            Due.due("age", x.look(2), age);
        }
        Due.due("undo()", x.undo() && x.undo() && x.undo(), true);
        Due.due("age", x.look(2), 998);
        Due.tells(x, 2, "row 0;".repeat(16), 16);
        x.set(2, 0, 980);
        x.log();
        Due.due("by the log", x.look(2), 996);
        x.log();
        Due.due("by the log", x.look(2), 999);
        Due.tells(x, 0, "shells 7 when age=999;", 1);
        Due.due("the law knows it", x.of(0, 8), 7);
        x.cross(2);
        Due.due("anew", x.look(2), 0);
    }

    // ---- the law

    private static void lawWithoutLines() {
        Due.about("Terms 2, THE LAW: none");
        for (int firm = 0; firm <= 9; firm++) {
            VotedBank x = new VotedBank();
            x.passenger(12345, firm % 2 == 1, 0, firm);
            Due.due("300 less 30 times firm " + firm, x.sway(0, 0), 300 - 30 * firm);
            Due.due("2 less child", x.of(0, 8), firm % 2 == 1 ? 1 : 2);
            Due.due("20 times waded 0", x.of(0, 9), 0);
        }
        VotedBank x = bank(12345);
        Due.tells(x, 2, "row 0;".repeat(16), 16);
        Due.tells(x, 0, "abstain 1000;", 1);
        for (int i = 0; i < 3; i++) {
            x.log();
        }
        x.cross(1);
        Due.tells(x, 0, "sway 1;", 1);
        Due.due("49 times waded", x.of(0, 5), 49);
        Due.due("20 times 49", x.of(0, 9), 980);
        Due.tells(x, 0, "abstain 1000;", 1);
        x.cross(1);
        Due.tells(x, 0, "sway 1;", 1);
        Due.due("20 times 50", x.of(0, 9), 1000);
        x.cross(1);
        Due.due("51 times waded", x.of(0, 5), 51);
        Due.due("held to 1000", x.of(0, 9), 1000);
        Due.tells(x, 0, "sway 9 when 1=2;abstain 9 when 1=2;shells 9 when 1=2;", 3);
        Due.due("none is so: sway", x.sway(0, 0), 300);
        Due.due("none is so: abstain", x.of(0, 9), 1000);
        Due.due("none is so: shells", x.of(0, 8), 2);
    }

    private static void lawIsHeld() {
        Due.about("Terms 2, sway, abstain held to 0 .. 1000, shells to 0 .. 9");
        VotedBank x = bank(12345);
        String[] told = {"0-9999", "0-1", "0", "1", "999", "1000", "1001", "9999"};
        int[] held = {0, 0, 0, 1, 999, 1000, 1000, 1000};
        for (int i = 0; i < told.length; i++) {
            Due.tells(x, 0, "sway " + told[i] + ";abstain " + told[i] + ";shells 0;", 3);
            Due.due("sway " + told[i], x.sway(0, 0), held[i]);
            Due.due("abstain " + told[i], x.of(0, 9), held[i]);
        }
        String[] shells = {"0-9999", "0-1", "0", "1", "8", "9", "10", "9999"};
        int[] laid = {0, 0, 0, 1, 8, 9, 9, 9};
        for (int i = 0; i < shells.length; i++) {
            Due.tells(x, 0, "shells " + shells[i] + ";", 1);
            Due.due("shells " + shells[i], x.of(0, 8), laid[i]);
            Due.due("shells laid", x.would(1, 1), laid[i]);
        }
    }

    private static void lawWraps() {
        Due.about("Terms 2, ints, which wrap");
        VotedBank x = bank(12345);
        // 9999*9999 is 99980001; 21 times it 2099580021, 22 times it 2199560022, which is -2095407274.
        String much = "9999*9999*21";
        String[] so = {"9999*9999*22<0", "0-9999*9999*22>0", much + "+9999*9999<0", "0-" + much + "-9999*9999>0",
            "0-" + much + "<" + much, much + ">0-" + much, "9999*9999*22+" + much + "=4172*1000+747",
            "256*256*256*256=0", "256*256*256*128<0", "256*256*256*128-1>0", "0-256*256*256*128=256*256*256*128"};
        for (String b : so) {
            Due.tells(x, 0, "abstain 1 when " + b + ";", 1);
            Due.due(b, x.of(0, 9), 1);
            Due.tells(x, 0, "abstain 1 when not " + b + ";", 1);
            Due.due("not " + b, x.of(0, 9), 0);
        }
        Due.tells(x, 0, "sway 9999*9999*22;shells " + much + ";", 2);
        Due.due("below 0 behind its wrap", x.sway(0, 0), 0);
        Due.due("held to 9", x.of(0, 8), 9);
    }

    private static void lawPartsTowardsNought() {
        Due.about("Terms 2, / goes towards 0");
        VotedBank x = bank(12345);
        // 256*256*256*128 is the least int, -2147483648; 9999 times 214769 is 2147475231.
        String[] so = {"7/2=3", "1/2=0", "9999/9998=1", "9998/9999=0", "9999*9999*22/1000=0-2095*1000-407", "0/5=0",
            "256*256*256*128/9999=0-214*1000-769", "256*256*256*128/1=256*256*256*128", "3*3/2=4", "3/2*3=3", "8/2/2=2",
            "5-9/2=1"};
        for (String b : so) {
            Due.tells(x, 0, "abstain 1 when " + b + ";", 1);
            Due.due(b, x.of(0, 9), 1);
        }
    }

    private static void lawTakesTheFirstThatIsSo() {
        Due.about("Terms 2, E of the first line with that word whose B is so, or that has none");
        VotedBank x = bank(12345);
        String[] laws = {"sway 1;sway 2;", "sway 1 when 1=1;sway 2;", "sway 1 when 1=2;sway 2;",
            "sway 1 when 1=2;sway 2 when 2=3;sway 3 when 3=3;", "abstain 1;shells 2;sway 3;",
            "sway 1 when 1=2;abstain 7;sway 2 when 2=3;", "abstain 5;shells 5;"};
        int[] told = {1, 1, 2, 3, 3, 300, 300};
        for (int i = 0; i < laws.length; i++) {
            Due.due(laws[i], Due.tell(x, 0, laws[i]) > 0, true);
            Due.due(laws[i], x.sway(0, 0), told[i]);
        }
    }

    private static void lawJoins() {
        Due.about("Terms 2, B, A, C, E, T, U");
        VotedBank x = bank(12345);
        String[] so = {"1<2", "2>1", "1=1", "not 1<1", "not 1>1", "not 2<1", "not 1>2", "not 1=2", "not not 1=1",
            "1=1 and 2=2", "1=2 or 2=2", "2=2 or 1=2", "1=1 or 1=1 and 1=2", "1=2 and 1=1 or 1=1", "not (1=1 and 1=2)",
            "not 1=2 and 1=1", "not (1=2 or 1=2)", "not 1=1 or 1=1", "(1=2 or 1=1) and (1=1 or 1=2)",
            "1=2 or 1=2 or 1=1", "1=1 and 1=1 and 1=1", "not (1=1 and 1=1 and 1=2)", "not (1=2 or 1=1 and 1=2)",
            "2+3*4=14", "2*3+4=10", "9-4-3=2", "9-4+3=8", "2*3*4=24", "1+1<1+2", "2*3-4*1=2", "100/7*7=98", "100*7/7=100"};
        for (String b : so) {
            Due.tells(x, 0, "abstain 1 when " + b + ";", 1);
            Due.due(b, x.of(0, 9), 1);
        }
        VotedBank y = bank(12345);
        String[] notSo = {"1<1", "2<1", "1>1", "1>2", "1=2", "2=1", "not 1<2", "not 2>1", "not 1=1", "not not 1<1",
            "not not 1>1", "1<1 or 1>1", "1=2 or 2=1", "1<2 and 1>2", "2>1 and 1>1", "(1<1)", "not (1<2 or 1>2)",
            "1<2 and 1<2 and 2<1", "2<1 and 1<2 or 1>2", "not (1=1 or 1=2)", "(1<2 or 2<1) and 2<1"};
        for (String b : notSo) {
            Due.tells(y, 0, "abstain 1 when " + b + ";", 1);
            Due.due(b, y.of(0, 9), 0);
        }
    }

    private static void lawKnowsTheOne() {
        Due.about("Terms 2, child, firm, waded, turned: his; talk: of sway the one's who talks");
        VotedBank x = new VotedBank();
        x.passenger(12345, true, 9, 8);
        x.passenger(21345, false, 3, 0);
        x.passenger(21345, false, 0, 9);
        Due.tells(x, 1, "passenger 0 hears 1;", 1);
        Due.tells(x, 0, "sway 1000;abstain 1000 when turned=1;", 2);
        x.cross(7);
        Due.tells(x, 0, "sway child*100+waded*10+turned;abstain firm*100+talk*10;", 2);
        Due.due("0 by 1", x.sway(0, 1), 111);
        Due.due("1 by 0", x.sway(1, 0), 0);
        Due.due("0", x.of(0, 9), 890);
        Due.due("1", x.of(1, 9), 30);
        Due.due("2", x.of(2, 9), 900);
        Due.tells(x, 0, "sway talk*100+firm;shells talk;", 2);
        Due.due("0 by 1", x.sway(0, 1), 308);
        Due.due("1 by 0", x.sway(1, 0), 900);
        Due.due("1 by 2", x.sway(1, 2), 0);
        Due.due("0 by himself", x.sway(0, 0), 908);
        Due.due("his own of shells", x.of(0, 8), 9);
        Due.due("his own of shells", x.of(1, 8), 3);
        // In a boat as well: 1 hears 0 (talk 9) and is turned by sway 900, not by his own talk.
        Due.tells(x, 1, "passenger 1 hears 0;", 1);
        Due.tells(x, 0, "sway 1000 when talk=9;sway 0;abstain 1000 when talk=9;", 3);
        x.set(3, 0, 54321);
        x.cross(3);
        Due.due("turned", x.of(1, 0), 52134);
        Due.due("not abstained", x.of(1, 5), 0);
        Due.due("abstained", x.of(0, 5), 2);
    }

    private static void lawKnowsTheBoat() {
        Due.about("Terms 2, bank; age; stream; aboard; for");
        VotedBank x = bank(12345, 12354, 21345, 12345);
        x.stay(3, true);
        x.set(0, 0, 9);
        x.set(1, 0, 5);
        x.set(2, 0, 999);
        String[] words = {"bank", "age", "stream", "minute", "aboard", "for"};
        int[] want = {5, 999, 9, 0, 3, 2};
        for (int i = 0; i < words.length; i++) {
            Due.tells(x, 0, "abstain " + words[i] + ";", 1);
            Due.due(words[i], x.of(0, 9), want[i]);
        }
        Due.due("for of another one", x.of(2, 9), 1);
        Due.due("himself too, who is over", x.of(3, 9), 3);
        Due.tells(x, 0, "shells aboard*2+for when minute=12;", 1);
        Due.due("of the boat alone", x.would(1, 1), 3);
        Due.due("of the boat alone, 6 each", x.would(3, 1), 12);
        // Turned first: both have 2 first then, so that for is 2.
        Due.tells(x, 1, "passenger 0 hears 2;", 1);
        Due.tells(x, 0, "sway 1000;shells for;", 2);
        Due.due("first in their RANK now", x.would(5, 1), 4);
        Due.tells(x, 0, "shells bank+age-999;", 1);
        Due.due("as they are ahead of the vote", x.would(1, 1), 5);
    }

    // ---- minutes and talk

    private static void minutesOfACrossing() {
        Due.about("Terms 3, 3 and STREAM minutes; MINUTE as many more");
        for (int stream = 0; stream <= 9; stream++) {
            VotedBank x = bank(12345, 21345);
            Due.tells(x, 1, "passenger 0 hears 1;", 1);
            Due.tells(x, 0, "sway 0;", 1);
            x.set(0, 0, stream);
            x.cross(3);
            int state = 0;
            for (int i = 0; i < 3 + stream; i++) {
                state = next(state);
            }
            Due.due("a draw in each minute", x.look(8), state);
            Due.due("MINUTE", x.look(4), 3 + stream);
            x.cross(1);
            Due.due("MINUTE", x.look(4), 6 + 2 * stream);
            Due.due("nobody talks to one alone", x.look(8), state);
            Due.due("CROSSED", x.look(5), 2);
        }
    }

    private static void minutesOfTheLaw() {
        Due.about("Terms 2, minute: 0 the first (abstain, shells: how many there were)");
        for (int stream = 0; stream <= 9; stream += 3) {
            int minutes = 3 + stream;
            for (int minute : new int[] {0, 1, minutes - 1, minutes}) {
                VotedBank x = bank(12345, 21345);
                x.set(0, 0, stream);
                Due.tells(x, 1, "passenger 0 hears 1;", 1);
                Due.tells(x, 0, "sway 1000 when minute=" + minute + ";sway 0;", 2);
                x.cross(3);
                Due.due("turned in minute " + minute + " of " + minutes, x.of(0, 6), minute < minutes ? 1 : 0);
                Due.tells(x, 0, "abstain 1000 when minute=" + minute + ";", 1);
                x.cross(1);
                Due.due("abstained in minute " + minute, x.of(0, 5), minute < minutes ? 0 : 1);
                Due.tells(x, 0, "abstain 0;shells 5 when minute=" + minute + ";shells 1;", 3);
                Due.due("shells in minute " + minute, x.would(1, 1), minute < minutes ? 1 : 5);
            }
        }
    }

    private static void whoTalks() {
        Due.about("Terms 3, the one with most TALK (of several the least)");
        int[][] talks = {{0, 0, 0}, {9, 9, 9}, {0, 1, 0}, {8, 9, 9}, {8, 8, 9}, {1, 0, 1}};
        int[] land = {2, 2, 3, 3, 4, 2};
        for (int i = 0; i < talks.length; i++) {
            VotedBank x = bank(12345, 21345, 31245, 41235);
            for (int p = 1; p <= 3; p++) {
                x.set(4, p, talks[i][p - 1]);
            }
            Due.tells(x, 1, "passenger 0 hears 3;passenger 0 hears 2;passenger 0 hears 1;", 3);
            Due.tells(x, 0, "sway 1000 when minute=0;sway 0;", 2);
            x.cross(15);
            Due.due("of " + talks[i][0] + ", " + talks[i][1] + ", " + talks[i][2], x.of(0, 0) / 10000, land[i]);
        }
    }

    private static void whomOneHears() {
        Due.about("Terms 3, of those aboard whom he hears and who have another LAND first");
        VotedBank x = bank(12345, 21345, 12543);
        Due.tells(x, 0, "sway 1000;", 1);
        x.cross(7);
        Due.due("nobody is heard: no draw", x.look(8), 0);
        Due.tells(x, 1, "passenger 0 hears 2;", 1);
        x.cross(7);
        Due.due("the same LAND first: no draw", x.look(8), 0);
        Due.tells(x, 1, "passenger 0 hears 1;passenger 0 hears 2;", 2);
        x.cross(5);
        Due.due("not aboard: no draw", x.look(8), 0);
        x.set(4, 2, 9);
        Due.due("the one with most TALK has the same LAND first: the other one", x.cross(7), 2);
        Due.due("one draw, and then both have 2 first, but for him who talks most", x.of(0, 6), 3);
        // 2 first by passenger 1, then passenger 2 has another LAND first and talks most: 1, then 1 again: 2.
        line(x, 3, 3, 0, 0, 2);
        line(x, 4, 3, 0, 0, 1);
        line(x, 5, 3, 0, 0, 2);
        Due.due("one way: he who is heard does not hear", x.of(1, 6) + x.of(2, 6), 0);
    }

    private static void turningsOneByOne() {
        Due.about("Terms 3, PASSENGER by PASSENGER; the LAND that this one has first (now)");
        VotedBank x = bank(12345, 21345, 31245);
        Due.tells(x, 1, "passenger 0 hears 1;passenger 1 hears 2;", 2);
        Due.tells(x, 0, "sway 1000;", 1);
        Due.due("cross(7)", x.cross(7), 3);
        Due.due("first to 2, then to 3", x.of(0, 0), 32145);
        Due.due("turned", x.of(0, 6), 2);
        Due.due("to 3", x.of(1, 0), 32145);
        Due.due("turned", x.of(1, 6), 1);
        line(x, 0, 0, 0, 0, 2);
        line(x, 1, 0, 0, 1, 3);
        line(x, 2, 0, 0, 0, 3);
        line(x, 3, 0, 2, NONE, 3);
        Due.due("three draws", x.look(8), next(next(next(0))));
        VotedBank y = bank(12345, 21345, 31245);
        Due.tells(y, 1, "passenger 1 hears 0;passenger 2 hears 1;", 2);
        Due.tells(y, 0, "sway 1000;", 1);
        Due.due("the other way all in one minute", y.cross(7), 1);
        Due.due("turned", y.of(1, 6) * 10 + y.of(2, 6), 11);
        line(y, 0, 0, 0, 1, 1);
        line(y, 1, 0, 0, 2, 1);
    }

    private static void rankBehindATurning() {
        Due.about("Terms 3, the LAND comes ahead of all in his RANK, the others behind it as they were");
        int[] talkers = {14325, 21345, 32145, 43215, 54321};
        int[] turned = {13524, 21354, 31524, 41352, 51324};
        for (int i = 0; i < talkers.length; i++) {
            VotedBank x = bank(13524, talkers[i]);
            Due.tells(x, 1, "passenger 0 hears 1;", 1);
            Due.tells(x, 0, "sway 1000;", 1);
            x.cross(3);
            Due.due("13524 by " + talkers[i], x.of(0, 0), turned[i]);
            Due.due("who talks keeps his", x.of(1, 0), talkers[i]);
            Due.due("turned", x.of(0, 6), i == 0 ? 0 : 1);
        }
    }

    // ---- votes

    private static void abstainAboveNought() {
        Due.about("Terms 3, abstain is asked: if it is above 0, a DRAW");
        VotedBank x = bank(12345, 12345, 12345);
        Due.tells(x, 0, "abstain firm;", 1);
        x.set(5, 1, 1);
        x.cross(7);
        Due.due("one draw of three", x.look(8), next(0));
        x.set(5, 2, 9);
        x.state(0);
        x.cross(7);
        Due.due("two draws of three", x.look(8), next(next(0)));
        x.state(0);
        x.cross(1);
        Due.due("none", x.look(8), 0);
        Due.tells(x, 0, "abstain 0-5;", 1);
        x.cross(7);
        Due.due("below 0: none", x.look(8), 0);
    }

    private static void everyoneAbstains() {
        Due.about("Terms 3, no shells: 0 mud; WADED one more");
        VotedBank x = bank(12345, 12345);
        x.set(1, 0, 3);
        x.set(2, 0, 8);
        Due.tells(x, 0, "abstain 1000;", 1);
        Due.due("cross(3)", x.cross(3), 0);
        Due.due("another one than it was", x.look(2), 0);
        Due.due("cross(3)", x.cross(3), 0);
        Due.due("mud again", x.look(2), 1);
        Due.due("waded", x.of(0, 5), 2);
        line(x, 0, 0, 1, 0, 1);
        line(x, 1, 0, 1, 1, 1);
        line(x, 2, 0, 2, NONE, 0);
        line(x, 3, 1, 1, 0, 2);
        line(x, 4, 1, 1, 1, 2);
        line(x, 5, 1, 2, NONE, 0);
        Due.due("who is not aboard does not wade", x.cross(1) == 0 && x.of(1, 5) == 2, true);
    }

    private static void shellsBehindAllDraws() {
        Due.about("Terms 3, all others lay shells (asked; behind all DRAWS)");
        VotedBank x = bank(12345, 21345, 21345);
        // The first one (drawn 563) abstains; aboard he is still, so that the others have 3 each.
        Due.tells(x, 0, "abstain 564 when bank=0 and for=1;shells aboard;", 2);
        Due.due("cross(7)", x.cross(7), 2);
        Due.due("waded", x.of(0, 5), 1);
        Due.tells(x, 0, "abstain 1000 when for=1;shells aboard;", 2);
        Due.due("all but one", x.would(7, 1), 6);
        Due.tells(x, 0, "abstain 1000 when for=2;shells aboard;", 2);
        Due.due("one of three", x.would(7, 1), 3);
        Due.due("one of three", x.would(7, 0), 1);
    }

    private static void mostShells() {
        Due.about("Terms 3, the LAND with most shells (two or more alike with most, no shells: 0 mud)");
        int[][] shells = {{3, 3}, {3, 4}, {4, 3}, {0, 0}, {0, 1}, {1, 0}, {3, 3, 4}, {4, 3, 4}, {4, 4, 3}, {3, 4, 4},
            {9, 9, 9, 9, 9}, {9, 9, 9, 9, 8}, {8, 9, 8, 8, 8}, {8, 8, 8, 8, 9}, {0, 0, 0, 0, 1}, {1, 1, 2, 0, 2},
            {1, 2, 2, 3, 0}, {2, 1, 1, 1, 2}};
        int[] bank = {0, 2, 1, 0, 2, 1, 3, 0, 0, 0, 0, 0, 2, 5, 5, 0, 4, 0};
        int[] ranks = {12345, 21345, 31245, 41235, 51234};
        for (int i = 0; i < shells.length; i++) {
            VotedBank x = new VotedBank();
            for (int p = 0; p < shells[i].length; p++) {
                x.passenger(ranks[p], false, 0, shells[i][p]);
            }
            Due.tells(x, 0, "shells firm;", 1);
            int all = (1 << shells[i].length) - 1;
            Due.due("would " + i, x.would(all, 0), bank[i]);
            Due.due("shells " + i, x.would(all, 1), bank[i] == 0 ? 0 : shells[i][bank[i] - 1]);
            Due.due("vote " + i, x.cross(all), bank[i]);
            line(x, 0, 0, 2, NONE, bank[i]);
        }
        VotedBank x = bank(12345, 13245, 21345);
        x.set(5, 0, 2);
        x.set(5, 1, 2);
        x.set(5, 2, 4);
        Due.tells(x, 0, "shells firm;", 1);
        Due.due("2 and 2 against 4", x.cross(7), 0);
        x.set(5, 2, 3);
        Due.due("2 and 2 against 3", x.cross(7), 1);
    }

    // ---- banks

    private static void agesByVotes() {
        Due.about("Terms 3, AGE is 0, if it is another one than it was; else one more");
        VotedBank x = bank(12345, 21345);
        Due.due("mud", x.cross(3), 0);
        Due.due("as it was", x.look(2), 1);
        Due.due("to 1", x.cross(1), 1);
        Due.due("another one", x.look(2), 0);
        Due.due("1", x.cross(1), 1);
        Due.due("as it was", x.look(2), 1);
        Due.due("to 2", x.cross(2), 2);
        Due.due("another one", x.look(2), 0);
        x.set(2, 0, 7);
        Due.due("to mud", x.cross(3), 0);
        Due.due("another one", x.look(2), 0);
        x.set(1, 0, 2);
        x.set(2, 0, 7);
        Due.due("2, which was told", x.cross(2), 2);
        Due.due("as it was", x.look(2), 8);
    }

    private static void seasonsByAge() {
        Due.about("Terms 3, SEASONS: is AGE its N at least");
        int[] ns = {1, 2, 98, 99};
        for (int n : ns) {
            for (int land = 0; land <= 1; land++) {
                for (int ahead = n - 2; ahead <= n; ahead++) {
                    if (ahead >= 0) {
                        VotedBank x = bank(12345, 21345);
                        Due.tells(x, 3, "bank " + land + " behind " + n + " is 5;", 1);
                        x.set(1, 0, land);
                        x.set(2, 0, ahead);
                        boolean turns = ahead + 1 >= n;
                        Due.due("BANK of N " + n, x.cross(land == 0 ? 3 : 1), turns ? 5 : land);
                        Due.due("AGE of N " + n, x.look(2), turns ? 0 : ahead + 1);
                        Due.due("lines", x.look(7), turns ? 2 : 1);
                    }
                }
            }
        }
        VotedBank x = bank(12345);
        Due.tells(x, 3, "bank 1 behind 1 is 5;", 1);
        x.set(2, 0, 999);
        Due.due("AGE is 0, since it was another one", x.cross(1), 1);
        x.set(2, 0, 999);
        Due.due("far above its N", x.cross(1), 5);
        Due.due("a new age", x.look(2), 0);
        x.set(1, 0, 1);
        x.set(2, 0, 500);
        Due.due("no crossing, no season", x.look(1), 1);
    }

    private static void oneSeasonACrossing() {
        Due.about("Terms 3, then SEASONS, once; AGE 0");
        VotedBank x = bank(12345);
        Due.tells(x, 3, "bank 1 behind 1 is 2;bank 2 behind 1 is 3;bank 3 behind 1 is 1;", 3);
        x.set(1, 0, 1);
        Due.due("from 1 to 2, no further", x.cross(1), 2);
        Due.due("from 2 to 1 by the vote", x.cross(1), 1);
        Due.due("AGE", x.look(2), 0);
        Due.due("from 1 to 2", x.cross(1), 2);
        Due.tells(x, 3, "bank 1 behind 1 is 1;", 1);
        x.set(1, 0, 1);
        Due.due("to itself", x.cross(1), 1);
        Due.due("AGE 0 all the same", x.look(2), 0);
        line(x, x.look(7) - 1, 3, 3, NONE, 1);
        Due.tells(x, 3, "bank 1 behind 1 is 0;", 1);
        Due.due("to mud", x.cross(1), 0);
    }

    private static void firstSeasonOfALand() {
        Due.about("Terms 2, SEASONS: of several for one LAND the first");
        VotedBank x = bank(12345);
        Due.tells(x, 3, "bank 1 behind 3 is 2;bank 1 behind 1 is 4;bank 0 behind 9 is 5;bank 1 behind 2 is 5;", 4);
        Due.due("N", x.season(1, 0), 3);
        Due.due("LAND", x.season(1, 1), 2);
        Due.due("N of mud", x.season(0, 0), 9);
        x.set(1, 0, 1);
        Due.due("AGE 1", x.cross(1), 1);
        Due.due("AGE 2", x.cross(1), 1);
        Due.due("AGE 3", x.cross(1), 2);
    }

    // ---- the book and the log

    private static void bookOfACrossing() {
        Due.about("Terms 3, THE BOOK: CROSSED (ahead of its being more), what, who, which");
        VotedBank x = bank(12345, 21345, 31245);
        x.cross(1);
        Due.tells(x, 1, "passenger 0 hears 1;", 1);
        Due.tells(x, 0, "sway 1000;abstain 1000 when turned=1;", 2);
        Due.tells(x, 3, "bank 0 behind 2 is 4;", 1);
        x.set(1, 0, 0);
        x.set(2, 0, 1);
        Due.due("2 and 3 alike: mud of age 2: 4", x.cross(7), 4);
        Due.due("CROSSED", x.look(5), 2);
        Due.due("lines", x.look(7), 5);
        line(x, 0, 0, 2, NONE, 1);
        line(x, 1, 1, 0, 0, 2);
        line(x, 2, 1, 1, 0, 1);
        line(x, 3, 1, 2, NONE, 0);
        line(x, 4, 1, 3, NONE, 4);
        x.stay(2, true);
        x.stay(2, false);
        x.stay(0, true);
        Due.due("to bring is not led", x.look(7), 7);
        line(x, 5, 2, 4, 2, 0);
        line(x, 6, 2, 4, 0, 0);
        Due.due("in thought nothing is led", x.would(2, 0) == 2 && x.look(7) == 7, true);
    }

    private static void bookUpTo150() {
        Due.about("Terms 3, THE BOOK (150 lines; no more then)");
        VotedBank x = bank(12345);
        Due.tells(x, 2, "row 0;".repeat(16), 16);
        for (int i = 0; i < 9; i++) {
            x.log();
        }
        Due.due("lines", x.look(7), 144);
        for (int i = 145; i <= 149; i++) {
            x.cross(1);
            Due.due("lines", x.look(7), i);
        }
        Due.due("line 149 is not there yet", x.book(149, 0), NONE - 1);
        Due.tells(x, 3, "bank 1 behind 1 is 2;", 1);
        x.cross(1);
        Due.due("of two lines the first", x.look(7), 150);
        line(x, 149, 149, 2, NONE, 1);
        Due.due("the season came all the same", x.look(1), 2);
        Due.due("line 150", x.book(150, 0), NONE - 1);
        x.stay(0, true);
        x.stay(0, false);
        x.cross(1);
        Due.due("no more", x.look(7), 150);
        Due.due("what was done is done", x.look(5), 151);
        line(x, 149, 149, 2, NONE, 1);
        line(x, 148, 148, 2, NONE, 1);
        line(x, 0, 0, 2, NONE, 1);
        for (int i = 0; i < 4; i++) {
            Due.due("undo()", x.undo(), true);
        }
        Due.due("as it was", x.look(7), 149);
        Due.due("gone back", x.book(149, 0), NONE - 1);
        x.stay(0, true);
        line(x, 149, 149, 4, 0, 0);
        Due.due("full again", x.look(7), 150);
    }

    private static void logOfThoseNotOver() {
        Due.about("Promise 7, log: a CROSSING of those of its row that are not OVER (if there are)");
        VotedBank x = bank(12345, 21345, 31245);
        Due.due("nothing is told", x.log(), 0);
        Due.due("an act", x.look(14), 1);
        Due.tells(x, 2, "row 0 1;row 1;row 2 1;row 0 1 2;", 4);
        x.stay(1, true);
        Due.due("three of four", x.log(), 3);
        line(x, 1, 0, 2, NONE, 1);
        line(x, 2, 1, 2, NONE, 3);
        line(x, 3, 2, 2, NONE, 0);
        Due.due("minutes of three", x.look(4), 9);
        x.stay(0, true);
        x.stay(2, true);
        Due.due("all are over", x.log(), 0);
        Due.due("no crossing", x.look(5), 3);
        Due.due("no minute", x.look(4), 9);
        Due.due("an act all the same", x.look(14), 5);
        Due.due("undo()", x.undo(), true);
        Due.due("over as they were", x.look(6), 7);
    }

    private static void logStays() {
        Due.about("Terms 3, THE LOG: then those told to stay are OVER");
        VotedBank x = bank(12345, 21345, 31245);
        Due.tells(x, 2, "row 0 1 stay 1;row 1 stay 1;row 2 1 0 stay 2 0;row 0 1 2;", 4);
        Due.due("two crossings", x.log(), 2);
        Due.due("all over", x.look(6), 7);
        Due.due("lines", x.look(7), 5);
        line(x, 0, 0, 2, NONE, 0);
        line(x, 1, 1, 4, 1, 0);
        line(x, 2, 1, 2, NONE, 0);
        line(x, 3, 2, 4, 0, 0);
        line(x, 4, 2, 4, 2, 0);
        Due.due("one act", x.look(14), 1);
        Due.due("undo()", x.undo(), true);
        Due.due("nobody is over", x.look(6), 0);
        Due.due("no line", x.look(7), 0);
        Due.due("the log goes as before", x.log(), 2);
        Due.due("again: nobody is left", x.log(), 0);
        Due.due("nobody stays twice", x.look(7), 5);
    }
}
