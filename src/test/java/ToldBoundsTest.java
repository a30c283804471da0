import java.util.ArrayList;
import java.util.Arrays;
import java.util.List;

/** Boundary cases of what is told, done, asked and undone: promises 1 to 7, 12 to 15 and 30 to 32. */
public final class ToldBoundsTest {
    private static final int NONE = VotedBank.NONE;
    private static final int[] RANKS = {12345, 12354, 21345, 31524, 45123, 54312, 54321};

    private ToldBoundsTest() {
    }

    public static void main(String[] args) {
        newObject();
        passengerRanks();
        passengerBounds();
        passengerTwelve();
        setBounds();
        setOfPassengers();
        crossSets();
        stayAndBring();
        ofEach();
        swayOfTwo();
        seasonOfLands();
        bookLines();
        undoSix();
        undoOfEachAct();
        undoForgets();
        undoKeeps();
        undoAcrossTexts();
        imageOnce();
        imageOfAll();
        imageOfOnePassenger();
        imageOfFewer();
        imageTakenAnew();
        lookBounds();
        Due.end();
    }

    private static VotedBank bank(int... ranks) {
        VotedBank x = new VotedBank();
        for (int rank : ranks) {
            x.passenger(rank, false, 5, 0);
        }
        return x;
    }

    // ---- promises 1 to 6

    private static void newObject() {
        Due.about("Promise 1, a new object: mud on the far side");
        VotedBank x = new VotedBank();
        for (int what = 0; what <= 14; what++) {
            Due.due("look(" + what + ")", x.look(what), 0);
        }
        Due.due("no fault", x.fault(0), 0);
        Due.due("no place", x.fault(1), NONE);
        Due.due("an empty tape", x.end(1), false);
        Due.due("nobody", x.of(0, 0), NONE);
        for (int land = 0; land <= 5; land++) {
            Due.due("no season", x.season(land, 0), NONE);
        }
        Due.due("no line", x.book(0, 0), NONE - 1);
        Due.due("nothing to undo", x.undo(), false);
        Due.due("no image", x.image(false), false);
        Due.due("an empty log", x.log(), 0);
        Due.due("STATE", x.state(1), 0);
        Due.due("the first passenger", x.passenger(12345, false, 0, 0), 0);
        int[] want = {12345, 0, 0, 0, 0, 0, 0, 0, 2, 0};
        for (int what = 0; what <= 9; what++) {
            Due.due("of(0, " + what + ")", x.of(0, what), want[what]);
        }
        Due.due("another object is another one", new VotedBank().look(0), 0);
    }

    private static void passengerRanks() {
        Due.about("Promise 3, passenger: rank: five digits, each of 1 .. 5 once");
        int ranks = 0;
        VotedBank x = new VotedBank();
        int calls = 0;
        for (int rank = 12300; rank <= 54400; rank++) {
            String digits = "" + rank;
            boolean is = true;
            for (char c = '1'; c <= '5'; c++) {
                is &= digits.indexOf(c) >= 0;
            }
            if (calls == 500 || is) {
                x = new VotedBank();
                calls = 0;
            }
            calls++;
            Due.due("passenger(" + rank + ")", x.passenger(rank, false, 0, 0), is ? 0 : NONE);
            if (is) {
                ranks++;
                Due.due("its rank", x.of(0, 0), rank);
                x = new VotedBank();
                calls = 0;
            }
        }
        Due.due("all of them", ranks, 120);
    }

    private static void passengerBounds() {
        Due.about("Promise 3, passenger: TALK 0 .. 9, FIRM 0 .. 9, CHILD 0, 1");
        VotedBank x = new VotedBank();
        int came = 0;
        for (int v = -1; v <= 10; v++) {
            boolean is = v >= 0 && v <= 9;
            Due.due("talk and firm " + v, x.passenger(12345, v % 2 == 0, v, 9 - v), is ? came : NONE);
            if (is) {
                Due.due("child", x.of(came, 1), v % 2 == 0 ? 1 : 0);
                Due.due("talk", x.of(came, 2), v);
                Due.due("firm", x.of(came, 3), 9 - v);
                came++;
            }
        }
        Due.due("talk alone beyond", x.passenger(12345, false, 10, 9), NONE);
        Due.due("talk alone below", x.passenger(12345, false, -1, 0), NONE);
        Due.due("firm alone beyond", x.passenger(12345, false, 9, 10), NONE);
        Due.due("firm alone below", x.passenger(12345, false, 0, -1), NONE);
        Due.due("ten came", x.look(0), 10);
    }

    private static void passengerTwelve() {
        Due.about("Promise 3, passenger: NONE if there are twelve");
        VotedBank x = new VotedBank();
        for (int p = 0; p < 12; p++) {
            Due.due("passenger " + p, x.passenger(RANKS[p % 7], p % 2 == 0, p % 10, 9 - p % 10), p);
            Due.due("there are", x.look(0), p + 1);
        }
        Due.due("a thirteenth", x.passenger(54321, true, 9, 9), NONE);
        x.stay(0, true);
        Due.due("nor for one who is over", x.passenger(54321, true, 9, 9), NONE);
        Due.due("twelve", x.look(0), 12);
        for (int p = 0; p < 12; p++) {
            Due.due("rank of " + p, x.of(p, 0), RANKS[p % 7]);
            Due.due("child of " + p, x.of(p, 1), p % 2 == 0 ? 1 : 0);
            Due.due("talk of " + p, x.of(p, 2), p % 10);
            Due.due("firm of " + p, x.of(p, 3), 9 - p % 10);
        }
    }

    private static void setBounds() {
        Due.about("Promise 4, set: STREAM 0 .. 9, BANK 0 .. 5, AGE 0 .. 999 (who not asked)");
        VotedBank x = new VotedBank();
        int[] most = {9, 5, 999};
        int[] look = {3, 1, 2};
        for (int what = 0; what <= 2; what++) {
            for (int who : new int[] {0, -1, 12, 99, Integer.MIN_VALUE, Integer.MAX_VALUE}) {
                Due.due("the most", x.set(what, who, most[what]), true);
                Due.due("is told", x.look(look[what]), most[what]);
                Due.due("one more", x.set(what, who, most[what] + 1), false);
                Due.due("stays", x.look(look[what]), most[what]);
                Due.due("the least", x.set(what, who, 0), true);
                Due.due("is told", x.look(look[what]), 0);
                Due.due("one less", x.set(what, who, -1), false);
                Due.due("stays", x.look(look[what]), 0);
            }
            Due.due("one of another kind in between", x.set(what, 0, most[what] - 1), true);
        }
        Due.due("BANK stays by AGE", x.look(1), 4);
        Due.due("STREAM stays", x.look(3), 8);
        Due.due("AGE stays by BANK", x.set(1, 0, 2) && x.look(2) == 998, true);
        Due.due("what -1", x.set(-1, 0, 0), false);
        Due.due("what 6", x.set(6, 0, 0), false);
    }

    private static void setOfPassengers() {
        Due.about("Promise 4, set: RANK, TALK, FIRM of PASSENGER who");
        VotedBank x = bank(12345, 12345, 12345);
        for (int who = -1; who <= 3; who++) {
            boolean is = who >= 0 && who <= 2;
            for (int rank : new int[] {12345, 54321, 31524}) {
                Due.due("rank of " + who, x.set(3, who, rank), is);
            }
            for (int what = 4; what <= 5; what++) {
                int[] told = {0, -1, 9, 10, 3};
                int[] then = {0, 0, 9, 9, 3};
                for (int i = 0; i < told.length; i++) {
                    Due.due("what " + what + " of " + who + " to " + told[i], x.set(what, who, told[i]),
                            is && told[i] == then[i]);
                    Due.due("is told", x.of(who, what - 2), is ? then[i] : NONE);
                }
            }
            for (int wrong : new int[] {12344, 12346, 54320, 54322, 0, 11111, 66666, 123451, -12345}) {
                Due.due("rank " + wrong, x.set(3, who, wrong), false);
            }
            Due.due("rank", x.of(who, 0), is ? 31524 : NONE);
        }
        VotedBank y = bank(12345, 12345);
        y.set(3, 1, 54321);
        y.set(4, 1, 9);
        y.set(5, 1, 9);
        Due.due("the other one stays", y.of(0, 0) * 100 + y.of(0, 2) * 10 + y.of(0, 3), 1234550);
        y.stay(1, true);
        Due.due("of one who is over", y.set(4, 1, 3) && y.of(1, 2) == 3, true);
        Due.due("the twelfth is not there", y.set(4, 11, 3), false);
    }

    private static void crossSets() {
        Due.about("Promise 5, cross: NONE if it can't be (other ones, OVER ones)");
        VotedBank x = new VotedBank();
        Due.due("nobody is there", x.cross(0), NONE);
        Due.due("nobody is there", x.cross(1), NONE);
        for (int p = 0; p < 12; p++) {
            Due.due("one that is not yet there", x.cross(1 << p), NONE);
            x.passenger(p == 11 ? 54321 : 12345, false, 0, 0);
            Due.due("the latest one", x.cross(1 << p), p == 11 ? 5 : 1);
            Due.due("all that there are", x.cross((2 << p) - 1), 1);
            Due.due("and one more", x.cross((4 << p) - 1), NONE);
            Due.due("nobody", x.cross(0), NONE);
        }
        for (int bit = 12; bit <= 31; bit++) {
            Due.due("others by " + bit, x.cross(1 << bit), NONE);
            Due.due("others with one by " + bit, x.cross(1 << bit | 1), NONE);
        }
        Due.due("CROSSED", x.look(5), 24);
        x.stay(3, true);
        Due.due("one over", x.cross(8), NONE);
        Due.due("one over with others", x.cross(4095), NONE);
        Due.due("the others", x.cross(4087), 1);
        for (int p = 0; p < 12; p++) {
            x.stay(p, true);
        }
        Due.due("all are over", x.cross(1), NONE);
        Due.due("all are over", x.cross(0), NONE);
        Due.due("CROSSED", x.look(5), 25);
    }

    private static void stayAndBring() {
        Due.about("Promise 6, stay: false if it is so, or there is none such");
        VotedBank x = bank(12345, 12345, 12345, 12345, 12345, 12345, 12345, 12345, 12345, 12345, 12345, 12345);
        for (int p : new int[] {0, 11}) {
            Due.due("to bring one who is here", x.stay(p, false), false);
            Due.due("to stay", x.stay(p, true), true);
            Due.due("over", x.of(p, 4), 1);
            Due.due("over", x.look(6), 1 << p);
            Due.due("to stay again", x.stay(p, true), false);
            Due.due("to bring", x.stay(p, false), true);
            Due.due("not over", x.of(p, 4), 0);
            Due.due("to bring again", x.stay(p, false), false);
            Due.due("nobody is over", x.look(6), 0);
        }
        for (int p : new int[] {-1, 12, 32, 44}) {
            Due.due("none such", x.stay(p, true), false);
            Due.due("none such", x.stay(p, false), false);
        }
        for (int p = 0; p < 12; p++) {
            x.stay(p, true);
        }
        Due.due("all are over", x.look(6), 4095);
        Due.due("four acts and twelve: six are kept", x.look(14), 6);
    }

    // ---- promises 12 to 15

    private static void ofEach() {
        Due.about("Promise 12, of");
        VotedBank x = new VotedBank();
        x.passenger(31524, true, 9, 0);
        x.passenger(54321, false, 0, 9);
        Due.tells(x, 1, "passenger 0 hears 1;", 1);
        Due.tells(x, 0, "sway 1000;abstain 1000 when turned=1;", 2);
        x.cross(3);
        x.stay(0, true);
        Due.tells(x, 0, "shells aboard*3+for;abstain aboard*100+minute;", 2);
        int[] first = {53124, 1, 9, 0, 1, 1, 1, 2, 8, 200};
        int[] second = {54321, 0, 0, 9, 0, 0, 0, 0, 4, 100};
        for (int what = 0; what <= 9; what++) {
            Due.due("of(0, " + what + ")", x.of(0, what), first[what]);
            Due.due("of(1, " + what + ")", x.of(1, what), second[what]);
            Due.due("of(2, " + what + ")", x.of(2, what), NONE);
            Due.due("of(-1, " + what + ")", x.of(-1, what), NONE);
        }
        for (int what : new int[] {-1, 10}) {
            Due.due("another what", x.of(0, what), NONE);
        }
        VotedBank full = bank(RANKS[0], RANKS[0], RANKS[0], RANKS[0], RANKS[0], RANKS[0], RANKS[0], RANKS[0], RANKS[0],
                RANKS[0], RANKS[0], RANKS[6]);
        Due.tells(full, 1, "passenger 11 hears 0;passenger 11 hears 10;", 2);
        Due.due("of(11, 0)", full.of(11, 0), 54321);
        Due.due("of(11, 7)", full.of(11, 7), 1025);
        Due.due("of(12, 0)", full.of(12, 0), NONE);
    }

    private static void swayOfTwo() {
        Due.about("Promise 13, sway of a by b");
        VotedBank x = new VotedBank();
        x.passenger(12345, false, 1, 0);
        x.passenger(12345, false, 9, 9);
        Due.due("alike, and he does not hear him", x.sway(0, 1), 300);
        Due.due("firm 9", x.sway(1, 0), 30);
        Due.tells(x, 0, "sway talk*100+aboard*10+for when minute=0;", 1);
        Due.due("by the other one's talk", x.sway(0, 1), 922);
        Due.due("by his own", x.sway(0, 0), 122);
        x.stay(1, true);
        Due.due("b is over", x.sway(0, 1), 911);
        Due.due("a is over, himself too", x.sway(1, 0), 122);
        for (int p : new int[] {-1, 2, 12}) {
            Due.due("none such", x.sway(0, p), NONE);
            Due.due("none such", x.sway(p, 0), NONE);
            Due.due("none such", x.sway(p, p), NONE);
        }
    }

    private static void seasonOfLands() {
        Due.about("Promise 14, season");
        VotedBank x = new VotedBank();
        Due.tells(x, 3, "bank 0 behind 1 is 5;bank 5 behind 99 is 0;bank 0 behind 2 is 2;", 3);
        for (int land = -1; land <= 6; land++) {
            Due.due("N of " + land, x.season(land, 0), land == 0 ? 1 : land == 5 ? 99 : NONE);
            Due.due("LAND of " + land, x.season(land, 1), land == 0 ? 5 : land == 5 ? 0 : NONE);
            Due.due("another what", x.season(land, -1), NONE);
            Due.due("another what", x.season(land, 2), NONE);
        }
    }

    private static void bookLines() {
        Due.about("Promise 15, book: NONE - 1 if there is none such, or another what");
        VotedBank x = bank(12345);
        Due.due("no line yet", x.book(0, 0), -2);
        x.cross(1);
        x.cross(1);
        int[] want = {1, 2, NONE, 1};
        for (int what = -1; what <= 4; what++) {
            boolean is = what >= 0 && what <= 3;
            Due.due("book(1, " + what + ")", x.book(1, what), is ? want[what] : -2);
            Due.due("book(2, " + what + ")", x.book(2, what), -2);
            Due.due("book(-1, " + what + ")", x.book(-1, what), -2);
        }
        x.undo();
        Due.due("undone", x.book(1, 0), -2);
        Due.due("the first is left", x.book(0, 0), 0);
    }

    // ---- undo

    private static void undoSix() {
        Due.about("Promise 30, undo: 6 are kept; false if there is nothing");
        for (int acts = 0; acts <= 13; acts++) {
            VotedBank x = bank(12345, 21345);
            for (int i = 0; i < acts; i++) {
                x.cross(1 + i % 2);
            }
            int kept = Math.min(acts, 6);
            Due.due("kept of " + acts, x.look(14), kept);
            for (int i = 1; i <= kept; i++) {
                Due.due("undo " + i + " of " + acts, x.undo(), true);
                Due.due("crossed", x.look(5), acts - i);
                Due.due("lines", x.look(7), acts - i);
                Due.due("minute", x.look(4), 3 * (acts - i));
                Due.due("bank", x.look(1), acts == i ? 0 : 2 - (acts - i) % 2);
                Due.due("left", x.look(14), kept - i);
            }
            Due.due("nothing", x.undo(), false);
            Due.due("crossed", x.look(5), acts - kept);
        }
        VotedBank x = bank(12345);
        for (int i = 0; i < 4; i++) {
            x.cross(1);
        }
        x.undo();
        x.undo();
        for (int i = 0; i < 5; i++) {
            x.cross(1);
        }
        Due.due("two of four and five more: six", x.look(14), 6);
        for (int i = 6; i >= 1; i--) {
            Due.due("undo()", x.undo() ? x.look(5) : NONE, i);
        }
        Due.due("the first is kept no more", x.undo(), false);
    }

    private static void undoOfEachAct() {
        Due.about("Promise 30, undo: CROSSING, STAYING, BRINGING, LOG (STATE, THE BOOK, too)");
        VotedBank x = bank(12345, 21345);
        Due.tells(x, 1, "passenger 0 hears 1;", 1);
        Due.tells(x, 2, "row 1 stay 1;row 0;", 2);
        Due.tells(x, 0, "sway 1000;abstain 1000 when turned=1;", 2);
        Due.tells(x, 3, "bank 2 behind 1 is 3;", 1);
        x.set(0, 0, 2);
        x.set(1, 0, 2);
        x.state(-5);
        x.cross(3);
        x.stay(0, true);
        x.stay(0, false);
        x.log();
        Due.due("over", x.look(6), 2);
        Due.due("acts", x.look(14), 4);
        Due.due("the log goes back", x.undo(), true);
        Due.due("crossed", x.look(5), 1);
        Due.due("over", x.look(6), 0);
        Due.due("lines", x.look(7), 5);
        Due.due("the bringing goes back", x.undo(), true);
        Due.due("over", x.look(6), 1);
        Due.due("lines", x.look(7), 5);
        Due.due("the staying goes back", x.undo(), true);
        Due.due("over", x.look(6), 0);
        Due.due("lines", x.look(7), 4);
        Due.due("rank", x.of(0, 0), 21345);
        Due.due("a season came", x.look(1), 3);
        Due.due("the crossing goes back", x.undo(), true);
        int[] want = {2, 2, 0, 2, 0, 0, 0, 0, -5, 2, 1, 2, 1, 0, 0};
        for (int what = 0; what <= 14; what++) {
            Due.due("look(" + what + ")", x.look(what), want[what]);
        }
        Due.due("rank", x.of(0, 0), 12345);
        Due.due("waded", x.of(0, 5), 0);
        Due.due("turned", x.of(0, 6), 0);
        Due.due("no line", x.book(0, 0), NONE - 1);
        Due.due("nothing", x.undo(), false);
        Due.due("it is done again", x.cross(3), 3);
        Due.due("as before", x.look(7), 4);
    }

    private static void undoForgets() {
        Due.about("Terms 4, UNDO: whatever else is told forgets them");
        for (int i = 0; i <= 13; i++) {
            VotedBank x = bank(12345, 21345);
            x.image(true);
            x.cross(1);
            x.stay(1, true);
            Due.due("acts", x.look(14), 2);
            boolean told;
            switch (i) {
                case 0: told = x.state(0) == 0; break;
                case 1: told = x.passenger(12345, false, 0, 0) == 2; break;
                case 2: case 3: case 4: told = x.set(i - 2, 0, 0); break;
                case 5: told = x.set(3, 0, 12345); break;
                case 6: told = x.set(4, 0, 5); break;
                case 7: told = x.set(5, 0, 0); break;
                case 8: told = x.text(1) == 0; break;
                case 9: told = x.text(2) == 0; break;
                case 10: told = Due.tell(x, 1, "passenger 0 hears 1;") == 1; break;
                case 11: told = Due.tell(x, 2, "row 0;") == 1; break;
                case 12: told = x.image(false); break;
                default: told = x.image(true) && x.image(false);
            }
            Due.due("told " + i, told, true);
            Due.due("forgotten by " + i, x.look(14), 0);
            Due.due("nothing to undo by " + i, x.undo(), false);
            Due.due("what was done stays by " + i, x.look(5), i == 12 ? 0 : 1);
            x.stay(0, true);
            Due.due("kept from here on", x.look(14), 1);
            Due.due("one alone", x.undo() && !x.undo(), true);
        }
    }

    private static void undoKeeps() {
        Due.about("Terms 4, UNDO: THE LAW, SEASONS, SEEN, BRIBES and the taking of THE IMAGE forget nothing");
        for (int i = 0; i <= 21; i++) {
            VotedBank x = bank(12345, 21345);
            x.cross(1);
            x.stay(1, true);
            switch (i) {
                case 0: x.text(0); break;
                case 1: x.text(3); break;
                case 2: Due.tell(x, 0, "sway 1;"); break;
                case 3: Due.tell(x, 3, "bank 1 behind 1 is 2;"); break;
                case 4: x.seen(3); break;
                case 5: x.seen(NONE); break;
                case 6: x.bribe(0, 3); break;
                case 7: x.image(true); break;
                case 8: x.feed(0, 0, 0, 0, 0); break;
                case 9: x.end(0); break;
                case 10: x.text(4); break;
                case 11: Due.tell(x, 1, "?"); break;
                case 12: Due.tell(x, 2, "row 2;"); break;
                case 13: x.passenger(1, false, 0, 0); break;
                case 14: x.set(0, 0, 10); break;
                case 15: x.set(3, 2, 12345); break;
                case 16: x.cross(0); break;
                case 17: x.cross(2); break;
                case 18: x.stay(1, true); break;
                case 19: x.image(false); break;
                case 20: x.would(1, 0); break;
                default: x.look(14);
            }
            Due.due("kept by " + i, x.look(14), 2);
            Due.due("the stay goes back by " + i, x.undo() && x.look(6) == 0, true);
            Due.due("the crossing goes back by " + i, x.undo() && x.look(5) == 0, true);
            Due.due("nothing more by " + i, x.undo(), false);
        }
    }

    private static void undoAcrossTexts() {
        Due.about("Terms 4, UNDO leaves THE LAW, SEASONS, SEEN, BRIBES as they are");
        VotedBank x = bank(12345, 21345);
        x.cross(1);
        Due.tells(x, 0, "shells 7;", 1);
        Due.tells(x, 3, "bank 4 behind 8 is 3;", 1);
        x.seen(2);
        x.bribe(0, 33);
        Due.feed(x, "sway 1;");
        x.image(true);
        Due.due("undo()", x.undo(), true);
        Due.due("shells", x.of(0, 8), 7);
        Due.due("season", x.season(4, 0), 8);
        Due.due("seen", x.look(13), 1);
        Due.due("bribe", x.costs(2, 0), 33);
        Due.due("the tape", x.end(7), true);
        Due.due("the image is as it was taken", x.image(false) && x.look(5) == 1, true);
    }

    // ---- the image

    private static void imageOnce() {
        Due.about("Promise 31, image: false if there is none; gone back to may be more than once");
        VotedBank x = bank(12345);
        Due.due("none", x.image(false), false);
        x.cross(1);
        Due.due("none", x.image(false), false);
        Due.due("nothing changed", x.look(5) * 10 + x.look(14), 11);
        Due.due("taken", x.image(true), true);
        Due.due("what can be undone stays by its taking", x.look(14), 1);
        for (int i = 0; i < 3; i++) {
            x.cross(1);
            Due.due("gone back to", x.image(false), true);
            Due.due("crossed", x.look(5), 1);
            Due.due("lines", x.look(7), 1);
            Due.due("nothing can be undone then", x.look(14), 0);
            Due.due("nothing", x.undo(), false);
        }
        Due.due("gone back to with nothing between", x.image(false), true);
        x.cross(1);
        Due.due("an act behind it is undone", x.undo() && x.look(5) == 1, true);
    }

    private static void imageOfAll() {
        Due.about("Terms 4, THE IMAGE: all but the TAPE, fault() and what can be undone");
        VotedBank x = new VotedBank();
        x.image(true);
        Due.due("an image of nothing", x.passenger(12345, false, 0, 0), 0);
        Due.tells(x, 0, "shells 3;", 1);
        Due.tells(x, 3, "bank 1 behind 1 is 2;", 1);
        Due.tells(x, 2, "row 0;", 1);
        x.passenger(21345, true, 3, 4);
        Due.tells(x, 1, "passenger 0 hears 1;", 1);
        x.bribe(0, 9);
        x.seen(4);
        x.set(0, 0, 3);
        x.set(2, 0, 3);
        x.state(9);
        x.cross(3);
        x.stay(1, true);
        Due.faults(x, 0, "?", 1, 0);
        Due.feed(x, "sway 44;");
        Due.due("gone back to", x.image(false), true);
        for (int what = 0; what <= 14; what++) {
            Due.due("look(" + what + ")", x.look(what), 0);
        }
        Due.due("fault() is not of it", x.fault(0), 1);
        Due.due("its place neither", x.fault(1), 0);
        Due.due("the TAPE is not of it", x.text(0), 1);
        Due.due("nobody", x.of(0, 0), NONE);
        Due.due("no season", x.season(1, 0), NONE);
        Due.due("no line", x.book(0, 0), NONE - 1);
        Due.due("couples of nothing seen", x.began(0), 594);
        Due.due("one comes anew", x.passenger(54321, false, 1, 2), 0);
        int[] want = {54321, 0, 1, 2, 0, 0, 0, 0, 2, 0};
        for (int what = 0; what <= 9; what++) {
            Due.due("of(0, " + what + ")", x.of(0, what), want[what]);
        }
        Due.due("a bribe of 1", x.costs(1, 0), 1);
    }

    private static void imageOfOnePassenger() {
        Due.about("Terms 4, THE IMAGE: each of a PASSENGER, THE BOOK, SEEN, the texts line by line");
        VotedBank x = new VotedBank();
        x.passenger(31524, true, 4, 6);
        x.passenger(54321, false, 9, 0);
        Due.tells(x, 1, "passenger 0 hears 1;", 1);
        Due.tells(x, 2, "row 0;row 1 stay 1;", 2);
        Due.tells(x, 3, "bank 4 behind 7 is 2;", 1);
        Due.tells(x, 0, "sway 1000;abstain 1000 when turned=1;", 2);
        x.cross(3);
        x.stay(1, true);
        x.seen(3);
        x.image(true);
        int[] want = new int[10];
        for (int what = 0; what <= 9; what++) {
            want[what] = x.of(0, what);
        }
        Due.due("by hand: turned, waded", want[5] * 10 + want[6], 11);
        Due.due("by hand: rank", want[0], 53124);
        x.undo();
        x.undo();
        x.cross(1);
        x.cross(1);
        x.stay(0, true);
        x.set(3, 0, 12345);
        x.set(4, 0, 8);
        x.set(5, 0, 1);
        Due.tells(x, 1, "passenger 1 hears 0;", 1);
        Due.tells(x, 2, "row 1;row 1;", 2);
        Due.tells(x, 3, "bank 4 behind 8 is 1;", 1);
        Due.tells(x, 0, "sway 3;abstain 4;", 2);
        x.seen(NONE);
        x.seen(4);
        Due.due("gone back to", x.image(false), true);
        for (int what = 0; what <= 9; what++) {
            Due.due("of(0, " + what + ")", x.of(0, what), want[what]);
        }
        Due.due("over", x.look(6), 2);
        Due.due("began", x.began(1), 300);
        Due.due("N", x.season(4, 0), 7);
        Due.due("LAND", x.season(4, 1), 2);
        Due.due("hears", x.of(1, 7), 0);
        Due.due("sway", x.sway(0, 1), 1000);
        int[] what = {0, 1, 2, 4};
        int[] who = {0, 0, NONE, 1};
        int[] which = {5, 1, 5, 0};
        for (int i = 0; i < 4; i++) {
            Due.due("what " + i, x.book(i, 1), what[i]);
            Due.due("who " + i, x.book(i, 2), who[i]);
            Due.due("which " + i, x.book(i, 3), which[i]);
        }
        x.stay(1, false);
        Due.due("log()", x.log(), 2);
        Due.due("over by the log", x.look(6), 2);
    }

    private static void imageOfFewer() {
        Due.about("Terms 4, THE IMAGE: of those who came behind it nothing is left in thought");
        int[] all = {12345, 54321, 31524, 21345, 45123, 12354, 54312, 21345, 31524, 12345, 45123, 54321};
        for (int fewer = 0; fewer <= 11; fewer++) {
            VotedBank x = bank(Arrays.copyOf(all, fewer));
            x.image(true);
            for (int p = fewer; p < 12; p++) {
                x.passenger(all[p], false, 9, 9);
                x.bribe(p, 0);
            }
            Due.tells(x, 1, "passenger 0 hears 11;passenger 11 hears 0;passenger 10 hears 11;", 3);
            Due.tells(x, 0, "shells 9;", 1);
            List<Integer> later = thoughts(x);
            Due.due("gone back to", x.image(false), true);
            List<Integer> then = thoughts(x);
            Due.due("as of an object with " + fewer + " alone", then.equals(thoughts(bank(Arrays.copyOf(all, fewer)))), true);
            Due.due("otherwise than with twelve", then.equals(later), false);
        }
    }

    private static List<Integer> thoughts(VotedBank x) {
        List<Integer> all = new ArrayList<>();
        for (int land = 1; land <= 5; land++) {
            all.addAll(List.of(x.costs(land, 0), x.costs(land, 1), x.makes(land, 0), x.makes(land, 1)));
            all.addAll(List.of(x.beats(land, land % 5 + 1), x.wins(10 + land), x.wins(20 + land), x.boats(land, 0)));
        }
        for (int p = 0; p < 12; p++) {
            all.addAll(List.of(x.pivots(p), x.reaches(p), x.alike(p, NONE), x.of(p, 8), x.would(1 << p, 1)));
        }
        for (int what = 0; what <= 1; what++) {
            all.addAll(List.of(x.wins(what), x.boats(2, what), x.middle(what), x.game(what)));
        }
        return all;
    }

    private static void imageTakenAnew() {
        Due.about("Promise 31, image: as it was when it was taken");
        VotedBank x = bank(12345);
        x.image(true);
        x.set(0, 0, 4);
        x.image(true);
        x.set(0, 0, 7);
        x.image(false);
        Due.due("the later one", x.look(3), 4);
        x.set(3, 0, 54321);
        x.seen(1);
        x.seen(2);
        x.bribe(0, 8);
        Due.tells(x, 0, "shells 5;sway 6;", 2);
        x.image(true);
        x.set(3, 0, 12345);
        x.seen(NONE);
        x.seen(3);
        x.bribe(0, 0);
        Due.tells(x, 0, "shells 1;", 1);
        x.image(false);
        Due.due("rank", x.of(0, 0), 54321);
        Due.due("seen", x.look(13), 2);
        Due.due("began", x.began(0), 0);
        Due.due("bribe", x.costs(2, 0), 8);
        Due.due("shells", x.of(0, 8), 5);
        Due.due("sway", x.sway(0, 0), 6);
        Due.due("lines of the law", x.look(9), 2);
    }

    // ---- look

    private static void lookBounds() {
        Due.about("Promise 32, look: NONE for another what (STATE as it is)");
        VotedBank x = bank(12345);
        for (int what : new int[] {-1, 15, 16, Integer.MIN_VALUE, Integer.MAX_VALUE}) {
            Due.due("look(" + what + ")", x.look(what), NONE);
        }
        for (int state : new int[] {NONE, 0, Integer.MIN_VALUE, Integer.MAX_VALUE}) {
            x.state(state);
            Due.due("STATE", x.look(8), state);
            Due.due("it is no draw", x.look(8), state);
        }
    }
}
