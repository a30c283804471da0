/** Each promise of the document by itself: ordinary inputs, edges, wrong inputs. Answers were worked out by hand. */
public final class PromisesTest {
    private static final int NONE = VotedBank.NONE;
    private static final int BAD = NONE - 1;
    /** From STATE 0 the first draws of 1000 are 563, 577, 494; these are STATES behind 1, 2, 3 of them. */
    private static final int ONE_DRAW = 1013904223;
    private static final int TWO_DRAWS = 1196435762;
    private static final int THREE_DRAWS = -775096599;

    private PromisesTest() {
    }

    public static void main(String[] args) {
        newObject();
        stateIsTold();
        passengersCome();
        thingsAreSet();
        crossingVotes();
        crossingTalks();
        crossingAbstains();
        crossingAges();
        stayAndBring();
        logIsRowed();
        tapeIsFed();
        tapeIsEnded();
        textIsTaken();
        faultsOfLaw();
        faultsOfOthers();
        faultsByPlace();
        faultIsTold();
        passengerIsAsked();
        lawIsAsked();
        lawIsHeldToBounds();
        swayIsAsked();
        seasonsAreAsked();
        bookIsLed();
        bookIsFull();
        wouldVote();
        makesABank();
        pivotsTurn();
        beatsOthers();
        winsByAll();
        boatsAreNeeded();
        reachesAlongEars();
        alikeAndNearest();
        middleOfAll();
        seenBanks();
        beganSomewhere();
        bribesAreTold();
        costsOfABank();
        gameOfShells();
        undoGoesBack();
        undoIsForgotten();
        imageGoesBack();
        imageHoldsAllLines();
        lookTells();
        Due.end();
    }

    private static void due(String call, long got, long want) {
        Due.due(call, got, want);
    }

    private static void due(String call, boolean got, boolean want) {
        Due.due(call, got, want);
    }

    /** A bank with grown passengers of these ranks, talk 5, firm 0. */
    private static VotedBank bank(int... ranks) {
        VotedBank x = new VotedBank();
        for (int i = 0; i < ranks.length; i++) {
            due("passenger " + i, x.passenger(ranks[i], false, 5, 0), i);
        }
        return x;
    }

    private static void line(VotedBank x, int i, int crossed, int what, int who, int which) {
        due("book(" + i + ", 0)", x.book(i, 0), crossed);
        due("book(" + i + ", 1)", x.book(i, 1), what);
        due("book(" + i + ", 2)", x.book(i, 2), who);
        due("book(" + i + ", 3)", x.book(i, 3), which);
    }

    private static void newObject() {
        VotedBank x = new VotedBank();
        for (int what = 0; what <= 14; what++) {
            due("look(" + what + ")", x.look(what), 0);
        }
        due("fault(0)", x.fault(0), 0);
        due("fault(1)", x.fault(1), NONE);
        due("NONE", VotedBank.NONE, -1);
        due("undo()", x.undo(), false);
        due("costs(1, 0)", x.costs(1, 0), NONE);
    }

    private static void stateIsTold() {
        VotedBank x = new VotedBank();
        due("state(5)", x.state(5), 0);
        due("state(min)", x.state(Integer.MIN_VALUE), 5);
        due("look(8)", x.look(8), Integer.MIN_VALUE);
        due("state(0)", x.state(0), Integer.MIN_VALUE);
    }

    private static void passengersCome() {
        VotedBank x = new VotedBank();
        int[] wrong = {0, -12345, 1234, 123456, 11345, 12340, 12346, 62345, 12344, 55555, 112345, Integer.MIN_VALUE};
        for (int rank : wrong) {
            due("passenger(" + rank + ")", x.passenger(rank, false, 0, 0), NONE);
        }
        due("talk -1", x.passenger(12345, false, -1, 0), NONE);
        due("talk 10", x.passenger(12345, false, 10, 0), NONE);
        due("firm -1", x.passenger(12345, false, 0, -1), NONE);
        due("firm 10", x.passenger(12345, false, 0, 10), NONE);
        due("nobody came", x.look(0), 0);
        for (int i = 0; i < 12; i++) {
            due("passenger " + i, x.passenger(i % 2 == 0 ? 54321 : 12345, i == 3, i % 10, 9 - i % 10), i);
        }
        due("a thirteenth", x.passenger(12345, false, 0, 0), NONE);
        due("twelve", x.look(0), 12);
        due("of(3, 1)", x.of(3, 1), 1);
        due("of(11, 2)", x.of(11, 2), 1);
        due("of(11, 3)", x.of(11, 3), 8);
    }

    private static void thingsAreSet() {
        VotedBank x = bank(12345, 21345);
        due("stream 9", x.set(0, -5, 9), true);
        due("stream 10", x.set(0, 0, 10), false);
        due("stream -1", x.set(0, 0, -1), false);
        due("look(3)", x.look(3), 9);
        due("bank 5", x.set(1, 77, 5), true);
        due("bank 6", x.set(1, 0, 6), false);
        due("bank -1", x.set(1, 0, -1), false);
        due("look(1)", x.look(1), 5);
        due("age 999", x.set(2, 0, 999), true);
        due("age 1000", x.set(2, 0, 1000), false);
        due("age -1", x.set(2, 0, -1), false);
        due("look(2)", x.look(2), 999);
        due("bank leaves age", x.set(1, 0, 0) && x.look(2) == 999, true);
        due("rank", x.set(3, 1, 54321), true);
        due("rank wrong", x.set(3, 1, 54322), false);
        due("rank of none", x.set(3, 2, 54321), false);
        due("rank of -1", x.set(3, -1, 54321), false);
        due("of(1, 0)", x.of(1, 0), 54321);
        due("of(0, 0)", x.of(0, 0), 12345);
        due("talk", x.set(4, 0, 9), true);
        due("talk 10", x.set(4, 0, 10), false);
        due("of(0, 2)", x.of(0, 2), 9);
        due("firm", x.set(5, 0, 8), true);
        due("firm -1", x.set(5, 0, -1), false);
        due("firm of none", x.set(5, 2, 1), false);
        due("of(0, 3)", x.of(0, 3), 8);
        due("what 6", x.set(6, 0, 0), false);
        due("what -1", x.set(-1, 0, 0), false);
    }

    private static void crossingVotes() {
        VotedBank x = bank(12345, 21345, 23145, 31245);
        due("nobody", x.cross(0), NONE);
        due("one that is not", x.cross(17), NONE);
        due("below 0", x.cross(-1), NONE);
        due("nothing crossed", x.look(5), 0);
        due("a tie", x.cross(3), 0);
        due("two against two", x.cross(15), 2);
        due("a tie of the lesser ones alone", x.cross(15), 2);
        due("one", x.cross(8), 3);
        due("crossed", x.look(5), 4);
        due("minutes", x.look(4), 12);
        due("set(0, 0, 4)", x.set(0, 0, 4), true);
        due("cross(1)", x.cross(1), 1);
        due("minutes with stream", x.look(4), 19);
        due("no draws", x.look(8), 0);
        Due.tells(x, 0, "shells 0;", 1);
        due("no shells", x.cross(15), 0);
        Due.tells(x, 0, "shells minute when child=0;", 1);
        due("shells of 7 minutes", x.would(1, 1), 7);
    }

    private static void crossingTalks() {
        VotedBank x = bank(12345, 21345, 31245, 45123);
        Due.tells(x, 1, "passenger 0 hears 1; passenger 0 hears 2;", 2);
        Due.tells(x, 0, "sway 563;", 1);
        due("talked to in each minute: 563, 577, 494", x.cross(7), 2);
        due("three draws", x.look(8), THREE_DRAWS);
        due("turned by the third; of several with most talk the least", x.of(0, 0), 21345);
        line(x, 0, 0, 0, 0, 2);
        line(x, 1, 0, 2, NONE, 2);
        due("undo()", x.undo(), true);
        Due.tells(x, 0, "sway 564;", 1);
        due("turned by the first, then talked to by the other one", x.cross(7), 3);
        due("rank", x.of(0, 0), 32145);
        due("turned", x.of(0, 6), 2);
        line(x, 0, 0, 0, 0, 2);
        line(x, 1, 0, 0, 0, 3);
        due("undo()", x.undo(), true);
        due("more talk", x.set(4, 2, 6), true);
        due("first by the one who talks most, then by the other one", x.cross(7), 2);
        line(x, 0, 0, 0, 0, 3);
        x.state(0);
        due("nobody aboard to be heard", x.cross(9), 0);
        due("no draws", x.look(8), 0);
    }

    private static void crossingAbstains() {
        VotedBank x = bank(12345, 12345, 21345);
        Due.tells(x, 0, "abstain 564;", 1);
        due("first abstains (563), second not (577), third does (494)", x.cross(7), 1);
        due("three draws", x.look(8), THREE_DRAWS);
        due("waded", x.of(0, 5), 1);
        due("not waded", x.of(1, 5), 0);
        due("waded", x.of(2, 5), 1);
        line(x, 0, 0, 1, 0, 1);
        line(x, 1, 0, 1, 2, 1);
        line(x, 2, 0, 2, NONE, 1);
        x.state(0);
        Due.tells(x, 0, "abstain 563 when waded<9;", 1);
        due("not below 563", x.cross(1), 1);
        x.state(0);
        Due.tells(x, 0, "abstain 0;", 1);
        due("abstain 0", x.cross(7), 1);
        due("no draw", x.look(8), 0);
        Due.tells(x, 0, "abstain 1000;", 1);
        due("all abstain", x.cross(7), 0);
        line(x, x.look(7) - 2, 3, 1, 2, 2);
        Due.tells(x, 0, "", 0);
        due("20 times waded", x.of(2, 9), 40);
    }

    private static void crossingAges() {
        VotedBank x = bank(12345, 21345);
        due("other bank", x.cross(1), 1);
        due("age", x.look(2), 0);
        due("same bank", x.cross(1), 1);
        due("age", x.look(2), 1);
        due("set(2, 0, 998)", x.set(2, 0, 998), true);
        x.cross(1);
        due("age", x.look(2), 999);
        x.cross(1);
        due("age is 999 at most", x.look(2), 999);
        x.cross(2);
        due("age anew", x.look(2), 0);
        Due.tells(x, 3, "bank 2 behind 2 is 4; bank 4 behind 1 is 2;", 2);
        due("age 1", x.cross(2), 2);
        due("age 2: a season, one alone", x.cross(2), 4);
        due("age", x.look(2), 0);
        line(x, x.look(7) - 2, 6, 2, NONE, 2);
        line(x, x.look(7) - 1, 6, 3, NONE, 4);
        due("crossed", x.look(5), 7);
        due("from 4 to 2", x.cross(2), 2);
        due("age anew", x.look(2), 0);
    }

    private static void stayAndBring() {
        VotedBank x = bank(12345, 21345);
        due("bring one that is here", x.stay(0, false), false);
        due("none such", x.stay(2, true), false);
        due("none such", x.stay(-1, true), false);
        due("none such", x.stay(40, false), false);
        due("stay", x.stay(1, true), true);
        due("stay again", x.stay(1, true), false);
        due("over", x.look(6), 2);
        due("of(1, 4)", x.of(1, 4), 1);
        line(x, 0, 0, 4, 1, 0);
        due("over ones can't row", x.cross(3), NONE);
        due("nor vote in thought", x.would(2, 0), NONE);
        due("bring", x.stay(1, false), true);
        due("no line of it", x.look(7), 1);
        due("rows again", x.cross(2), 2);
        x.stay(0, true);
        line(x, 2, 1, 4, 0, 0);
    }

    private static void logIsRowed() {
        VotedBank x = bank(12345, 21345, 31245);
        Due.tells(x, 2, "row 0; row 2 1 stay 2 1;\nrow 1 2 stay 2; row 0 1 2;", 4);
        due("log()", x.log(), 3);
        due("who is over does not row", x.look(1), 1);
        due("over", x.look(6), 6);
        due("crossed", x.look(5), 3);
        due("lines", x.look(7), 5);
        line(x, 0, 0, 2, NONE, 1);
        line(x, 1, 1, 2, NONE, 0);
        line(x, 2, 2, 4, 1, 0);
        line(x, 3, 2, 4, 2, 0);
        line(x, 4, 2, 2, NONE, 1);
        due("one act", x.look(14), 1);
        due("undo()", x.undo(), true);
        due("all back", x.look(5) + x.look(6) + x.look(7), 0);
        due("an empty log is an act too", new VotedBank().log(), 0);
    }

    private static void tapeIsFed() {
        VotedBank x = new VotedBank();
        for (int i = 1; i <= 20; i++) {
            due("feed " + i, x.feed(0x20202020, 0x0a0a0a0a, 0, -1, i), 20 * i);
        }
        due("beyond 400", x.feed(0, 0, 0, 0, 0), NONE);
        due("end(400)", x.end(400), true);
        due("end(381)", x.end(381), true);
        due("would be 401", x.feed(0, 0, 0, 0, 0), NONE);
        due("end(380)", x.end(380), true);
        due("feed", x.feed(0, 0, 0, 0, 0), 400);
        due("the highest byte comes first: blanks, then a 0", x.text(0), NONE);
        due("place", x.fault(1), 8);
    }

    private static void tapeIsEnded() {
        VotedBank x = new VotedBank();
        due("end(0)", x.end(0), true);
        due("end(1)", x.end(1), false);
        due("end(-1)", x.end(-1), false);
        Due.feed(x, "sway 1;sway 2;");
        due("more than there are", x.end(15), false);
        due("end(7)", x.end(7), true);
        due("text(0)", x.text(0), 1);
        due("end(0)", x.end(0), true);
        Due.feed(x, "sway 12345;");
        due("cut within a number", x.end(9), true);
        due("text(0)", x.text(0), NONE);
        due("the end", x.fault(1), 9);
        Due.feed(x, "sway 5;sway");
        due("cut within a word", x.end(10), true);
        due("text(0)", x.text(0), NONE);
        due("the word", x.fault(1), 7);
    }

    private static void textIsTaken() {
        VotedBank x = bank(12345, 21345);
        Due.tells(x, 0, "shells 7;sway 5;", 2);
        due("tape is empty", x.end(1), false);
        Due.faults(x, 0, "shells 8", 1, 8);
        due("tape is empty", x.end(1), false);
        due("the law stays", x.of(0, 8), 7);
        due("its lines too", x.look(9), 2);
        due("no text 4", Due.tell(x, 4, "shells 8;"), NONE);
        due("fault(0)", x.fault(0), 0);
        due("fault(1)", x.fault(1), NONE);
        due("no text -1", x.text(-1), NONE);
        Due.tells(x, 0, "  \n ", 0);
        due("the law is none", x.of(0, 8), 2);
        Due.tells(x, 1, "passenger 1hears 0;passenger 1 hears 0;", 2);
        due("look(10)", x.look(10), 2);
        Due.tells(x, 2, "row 0 stay 0;", 1);
        due("look(11)", x.look(11), 1);
        Due.tells(x, 3, "bank 0 behind 99 is 0;", 1);
        due("look(12)", x.look(12), 1);
        StringBuilder sixteen = new StringBuilder();
        for (int i = 0; i < 16; i++) {
            sixteen.append("row 1;");
        }
        Due.tells(x, 2, sixteen.toString(), 16);
        Due.faults(x, 2, sixteen + "row 1;", 3, 96);
        Due.faults(x, 2, sixteen + "stay 1;", 1, 96);
        due("16 are left", x.look(11), 16);
        due("log()", x.log(), 16);
    }

    private static void faultsOfLaw() {
        VotedBank x = new VotedBank();
        Due.faults(x, 0, "Sway 1;", 1, 0);
        for (char letter : "azAZmM".toCharArray()) {
            Due.faults(x, 0, "sway" + letter + " 1;", 1, 0);
            Due.faults(x, 0, letter + "sway 1;", 1, 0);
        }
        for (char sign : "`{@[/:_".toCharArray()) {
            Due.faults(x, 0, "sway" + sign + " 1;", 1, 4);
        }
        Due.faults(x, 0, "sway", 1, 4);
        Due.faults(x, 0, "sway  ", 1, 6);
        Due.faults(x, 0, "sway 1 1;", 1, 7);
        Due.faults(x, 0, "sway 10000;", 1, 5);
        Due.tells(x, 0, "sway 9999;shells 0009;", 2);
        Due.faults(x, 0, "sway -1;", 1, 5);
        Due.faults(x, 0, "sway (1);", 1, 5);
        Due.faults(x, 0, "sway 1+;", 1, 7);
        Due.faults(x, 0, "sway 1/talk;", 1, 7);
        Due.faults(x, 0, "sway 1/0;", 2, 7);
        Due.faults(x, 0, "sway 1/0000;", 2, 7);
        Due.faults(x, 0, "sway 1/00000;", 1, 7);
        Due.tells(x, 0, "sway 0*0/1*talk-0+for;", 1);
        Due.faults(x, 0, "sway 1 when;", 1, 11);
        Due.faults(x, 0, "sway 1 when 1;", 1, 13);
        Due.faults(x, 0, "sway 1 when 1<2<3;", 1, 15);
        Due.faults(x, 0, "sway 1 when 1=1 and;", 1, 19);
        Due.faults(x, 0, "sway 1 when (1=1;", 1, 16);
        Due.faults(x, 0, "sway 1 when 1=1);", 1, 15);
        Due.faults(x, 0, "sway 1 when (1)=1;", 1, 14);
        Due.faults(x, 0, "sway 1 when not;", 1, 15);
        Due.faults(x, 0, "sway 1 when 1=hears;", 1, 14);
        Due.faults(x, 0, "sway 1\t;", 1, 6);
        Due.faults(x, 0, "sway 1" + (char) 187 + ";", 1, 6);
        Due.faults(x, 0, "sway 1;;", 1, 7);
        Due.tells(x, 0, "sway 1 when not(not(not(not(1=1))));", 1);
        Due.faults(x, 0, "sway 1 when not(not(not(not((1=1)))));", 3, 28);
        Due.tells(x, 0, "sway 1 when ((((((((1=1)))))))) and not not not not not not not not 1=1;", 1);
        Due.faults(x, 0, "sway 1 when ((((((((not 1=1))))))));", 3, 20);
    }

    private static void faultsOfOthers() {
        VotedBank x = bank(12345, 21345);
        Due.faults(x, 1, "passenger 2 hears 0;", 2, 10);
        Due.faults(x, 1, "passenger 0 hears 2;", 2, 18);
        Due.faults(x, 1, "passenger 1 hears 1;", 2, 18);
        Due.faults(x, 1, "passenger 1 hears 9999;", 2, 18);
        Due.faults(x, 1, "passenger 1 hears 0 0;", 1, 20);
        Due.faults(x, 1, "passenger 1 hears 0", 1, 19);
        Due.faults(x, 1, "row 1;", 1, 0);
        Due.faults(x, 2, "row 0 stay 0 stay 0;", 1, 13);
        Due.faults(x, 2, "row stay 0;", 1, 4);
        Due.faults(x, 2, "row 0 stay;", 1, 10);
        Due.faults(x, 2, "row 1 1;", 2, 6);
        Due.faults(x, 2, "row 0 1 2;", 2, 8);
        Due.faults(x, 2, "row 0 stay 1;", 2, 11);
        Due.faults(x, 2, "row 0 1 stay 1 1;", 2, 15);
        Due.faults(x, 2, "row 0 1 stay 1 2;", 2, 15);
        Due.faults(x, 3, "bank 6 behind 1 is 0;", 2, 5);
        Due.faults(x, 3, "bank 5 behind 0 is 0;", 2, 14);
        Due.faults(x, 3, "bank 5 behind 100 is 0;", 2, 14);
        Due.faults(x, 3, "bank 5 behind 99 is 6;", 2, 20);
        Due.faults(x, 3, "bank 5 is 0;", 1, 7);
        Due.faults(x, 3, "bank is 5;", 1, 5);
        Due.faults(x, 3, "bank 5 behind 9 is 3 ", 1, 21);
        Due.faults(x, 3, "age 5;", 1, 0);
        VotedBank empty = new VotedBank();
        Due.faults(empty, 2, "row 0;", 2, 4);
        Due.faults(empty, 1, "passenger 0 hears 0;", 2, 10);
    }

    private static void faultsByPlace() {
        VotedBank x = bank(12345);
        Due.faults(x, 0, "sway 1/0 when ?", 2, 7);
        Due.faults(x, 0, "sway ? when 1/0=1;", 1, 5);
        Due.faults(x, 0, "sway 1 when ((((((((( ?", 3, 20);
        Due.faults(x, 2, "row 1 ?", 2, 4);
        Due.faults(x, 2, "row 0 99999", 1, 6);
    }

    private static void faultIsTold() {
        VotedBank x = new VotedBank();
        Due.faults(x, 0, "?", 1, 0);
        due("fault(2)", x.fault(2), NONE);
        due("fault(-1)", x.fault(-1), NONE);
        x.image(true);
        Due.faults(x, 0, "sway 1/0;", 2, 7);
        x.image(false);
        due("not in the image", x.fault(0), 2);
        due("text(9)", x.text(9), NONE);
        due("fault(0)", x.fault(0), 0);
    }

    private static void passengerIsAsked() {
        VotedBank x = new VotedBank();
        x.passenger(31524, true, 4, 6);
        x.passenger(12345, false, 0, 0);
        Due.tells(x, 1, "passenger 1 hears 0;", 1);
        int[] want = {31524, 1, 4, 6, 0, 0, 0, 0, 1, 0};
        for (int what = 0; what < want.length; what++) {
            due("of(0, " + what + ")", x.of(0, what), want[what]);
        }
        due("of(1, 7)", x.of(1, 7), 1);
        due("of(0, 10)", x.of(0, 10), NONE);
        due("of(0, -1)", x.of(0, -1), NONE);
        due("of(2, 0)", x.of(2, 0), NONE);
        due("of(-1, 0)", x.of(-1, 0), NONE);
        Due.tells(x, 0, "shells minute+aboard*2+for;", 1);
        due("all aboard", x.of(0, 8), 5);
        x.stay(0, true);
        due("himself too", x.of(0, 8), 5);
        due("the other one not", x.of(1, 8), 3);
    }

    private static void lawIsAsked() {
        VotedBank x = new VotedBank();
        x.passenger(12345, true, 7, 4);
        x.passenger(12345, false, 2, 3);
        x.set(1, 0, 5);
        x.set(2, 0, 33);
        x.set(0, 0, 8);
        String[] words = {"child", "talk", "firm", "waded", "turned", "bank", "age", "stream", "minute", "aboard", "for"};
        int[] want = {1, 7, 4, 0, 0, 5, 33, 8, 0, 2, 2};
        for (int i = 0; i < words.length; i++) {
            Due.tells(x, 0, "abstain " + words[i] + ";", 1);
            due(words[i], x.of(0, 9), want[i]);
        }
        String[] laws = {"2+3*4", "2*3+4", "20-5-3", "100/7*7", "100*7/7", "7-10*talk/9+100", "0-7/2+100",
            "1 when 1=2;abstain 2 when 1<2;abstain 3", "1 when not 1=1 or 1=1", "1 when not (1=1 or 1=1);abstain 4",
            "1 when 1=1 or 1=1 and 1=2", "1 when 1=2 and 1=1 or 2>1", "1 when (1=1 or 1=1) and 1=2",
            "shells 1;abstain 8", "1 when 2>2 or 2<2", "9999*9999*43-4172*1000",
            "5 when 9999*9999*22/1000=0-2095*1000-407"};
        int[] told = {14, 10, 12, 98, 100, 100, 97, 2, 1, 4, 1, 1, 0, 8, 0, 747, 5};
        for (int i = 0; i < laws.length; i++) {
            String law = laws[i].startsWith("shells") ? laws[i] : "abstain " + laws[i];
            due("'" + law + "'", Due.tell(x, 0, law + ";") > 0, true);
            due("'" + law + "'", x.of(0, 9), told[i]);
        }
        Due.tells(x, 0, "abstain 100+9 when child-talk*2-8/2<0;abstain 5;", 2);
        due("below 0", x.of(0, 9), 109);
    }

    private static void lawIsHeldToBounds() {
        VotedBank x = bank(12345);
        Due.tells(x, 0, "sway 1001;abstain 9999;shells 10;", 3);
        due("sway", x.sway(0, 0), 1000);
        due("abstain", x.of(0, 9), 1000);
        due("shells", x.of(0, 8), 9);
        Due.tells(x, 0, "sway 0-1;abstain 1-2;shells 3-4;", 3);
        due("sway", x.sway(0, 0), 0);
        due("abstain", x.of(0, 9), 0);
        due("shells", x.of(0, 8), 0);
    }

    private static void swayIsAsked() {
        VotedBank x = new VotedBank();
        x.passenger(12345, false, 3, 9);
        x.passenger(21345, true, 8, 0);
        due("sway(0, 1)", x.sway(0, 1), 30);
        due("sway(1, 0)", x.sway(1, 0), 300);
        Due.tells(x, 0, "sway talk*100+firm*10+aboard;", 1);
        due("the talker's talk", x.sway(0, 1), 892);
        due("of himself", x.sway(0, 0), 392);
        x.stay(1, true);
        due("who is over is not aboard", x.sway(0, 1), 891);
        due("himself is aboard", x.sway(1, 0), 302);
        due("none such", x.sway(0, 2), NONE);
        due("none such", x.sway(2, 0), NONE);
        due("none such", x.sway(-1, 0), NONE);
        due("none such", x.sway(0, -1), NONE);
    }

    private static void seasonsAreAsked() {
        VotedBank x = new VotedBank();
        Due.tells(x, 3, "bank 5 behind 7 is 0;bank 0 behind 99 is 5;bank 5 behind 1 is 1;", 3);
        due("of several the first", x.season(5, 0), 7);
        due("season(5, 1)", x.season(5, 1), 0);
        due("season(0, 0)", x.season(0, 0), 99);
        due("season(0, 1)", x.season(0, 1), 5);
        due("no line", x.season(1, 0), NONE);
        due("no line", x.season(1, 1), NONE);
        due("no such land", x.season(6, 0), NONE);
        due("no such land", x.season(-1, 0), NONE);
        due("other what", x.season(5, 2), NONE);
        due("other what", x.season(5, -1), NONE);
        Due.tells(x, 3, "", 0);
        due("no line any more", x.season(5, 0), NONE);
    }

    private static void bookIsLed() {
        VotedBank x = bank(12345, 21345);
        due("book(0, 0)", x.book(0, 0), BAD);
        x.cross(1);
        due("book(0, 3)", x.book(0, 3), 1);
        due("book(0, 4)", x.book(0, 4), BAD);
        due("book(0, -1)", x.book(0, -1), BAD);
        due("book(-1, 0)", x.book(-1, 0), BAD);
        due("book(1, 0)", x.book(1, 0), BAD);
        Due.tells(x, 1, "passenger 0 hears 1;passenger 1 hears 0;", 2);
        Due.tells(x, 0, "sway 1000 when turned=0;sway 0;abstain 1000 when turned=1;", 3);
        due("0 is turned to 2, then nobody is talked to", x.cross(3), 2);
        line(x, 1, 1, 0, 0, 2);
        line(x, 2, 1, 1, 0, 1);
        line(x, 3, 1, 2, NONE, 2);
    }

    private static void bookIsFull() {
        VotedBank x = bank(12345);
        Due.tells(x, 2, "row 0;row 0;row 0;row 0;row 0;row 0;row 0;row 0;row 0;row 0;", 10);
        for (int i = 0; i < 14; i++) {
            x.log();
        }
        x.cross(1);
        due("lines", x.look(7), 141);
        x.log();
        due("150 lines at most", x.look(7), 150);
        line(x, 149, 149, 2, NONE, 1);
        due("book(150, 0)", x.book(150, 0), BAD);
        x.stay(0, true);
        due("no more", x.look(7), 150);
        due("crossings go on", x.look(5), 151);
        x.undo();
        x.undo();
        due("lines gone back", x.look(7), 141);
    }

    private static void wouldVote() {
        VotedBank x = bank(12345, 21345, 21345);
        due("would(1, 0)", x.would(1, 0), 1);
        due("would(3, 0)", x.would(3, 0), 0);
        due("a tie", x.would(3, 1), 0);
        due("would(7, 1)", x.would(7, 1), 4);
        due("would(7, 2)", x.would(7, 2), 0);
        Due.tells(x, 1, "passenger 0 hears 1;", 1);
        Due.tells(x, 0, "sway 499;abstain 499;", 2);
        due("sway 499", x.would(7, 2), 0);
        due("abstain 499", x.would(7, 1), 4);
        Due.tells(x, 0, "sway 500;abstain 500 when turned=1;", 2);
        due("sway 500", x.would(7, 2), 1);
        due("abstain 500", x.would(3, 1), 2);
        Due.tells(x, 3, "bank 2 behind 1 is 5;", 1);
        x.set(1, 0, 2);
        x.set(2, 0, 50);
        due("seasons aside", x.would(7, 0), 2);
        due("nothing stays", x.of(0, 0), 12345);
        due("nothing stays", x.look(5) + x.look(7) + x.look(8) + x.of(0, 5) + x.of(0, 6), 0);
        due("nobody", x.would(0, 0), NONE);
        due("none such", x.would(8, 0), NONE);
        due("below 0", x.would(-1, 0), NONE);
        due("other what", x.would(1, 3), NONE);
        due("other what", x.would(1, -1), NONE);
        x.stay(0, true);
        due("over", x.would(1, 0), NONE);
    }

    private static void makesABank() {
        VotedBank x = bank(12345, 21345, 21345);
        due("makes(2, 0)", x.makes(2, 0), 1);
        due("of several the least", x.makes(2, 1), 2);
        due("by none", x.makes(3, 0), NONE);
        due("by none", x.makes(3, 1), NONE);
        due("no such land", x.makes(0, 0), NONE);
        due("no such land", x.makes(6, 0), NONE);
        due("other what", x.makes(2, 2), NONE);
        x.stay(1, true);
        due("who is over has no say", x.makes(2, 1), 4);
        Due.tells(x, 0, "shells aboard-2;", 1);
        due("without shells", x.makes(2, 0), NONE);
    }

    private static void pivotsTurn() {
        VotedBank x = bank(12345, 21345, 31245);
        // Others: nobody (mud, 1), 1 (2, mud), 2 (3, mud), both (mud, mud).
        due("pivots(0)", x.pivots(0), 3);
        x.set(3, 2, 12345);
        // Others: nobody (mud, 1), 1 (2, mud), 2 (1, 1), both (mud, 1).
        due("pivots(0)", x.pivots(0), 3);
        Due.tells(x, 0, "shells 0 when for=1;", 1);
        // The second has no shells, so that each set counts twice: nobody, him; not with the third.
        due("pivots(0)", x.pivots(0), 2);
        due("without shells", x.pivots(1), 0);
        x.stay(2, true);
        due("over", x.pivots(2), NONE);
        due("none such", x.pivots(3), NONE);
        due("none such", x.pivots(-1), NONE);
    }

    private static void beatsOthers() {
        VotedBank x = new VotedBank();
        x.passenger(12345, false, 0, 0);
        x.passenger(54321, true, 0, 0);
        due("beats(1, 2)", x.beats(1, 2), 1);
        due("beats(5, 1)", x.beats(5, 1), -1);
        x.stay(0, true);
        due("the child alone", x.beats(1, 5), -1);
        due("alike", x.beats(2, 2), -1000);
        due("no such land", x.beats(0, 2), -1000);
        due("no such land", x.beats(2, 6), -1000);
    }

    private static void winsByAll() {
        VotedBank x = bank(12345, 12345, 23145, 23145, 32145);
        // 1 against 2: 2:3, against 3: 2:3; 2 against 3: 4:1; so 2 is it.
        due("champion", x.wins(0), 2);
        // First 4, 4, 2, 0, 0 shells: 5 goes, 4 goes, 3 goes (its shells to 2), 1 goes.
        due("last", x.wins(1), 2);
        due("points of 1", x.wins(11), 2 * (4 + 4 + 2 + 2 + 2));
        due("points of 2", x.wins(12), 2 * (3 + 3 + 4 + 4 + 3));
        due("points of 5", x.wins(15), 0);
        due("put for 2", x.wins(22), 12345);
        due("put for 1", x.wins(21), NONE);
        for (int what : new int[] {-1, 2, 9, 10, 16, 20, 26, 31, Integer.MIN_VALUE, Integer.MAX_VALUE}) {
            due("wins(" + what + ")", x.wins(what), NONE);
        }
        VotedBank round = bank(12345, 23145, 31245);
        due("no champion", round.wins(0), NONE);
        due("fewest of several: the greatest number goes", round.wins(1), 1);
        due("put for 3", round.wins(23), 12345);
        due("put for 2", round.wins(22), 13245);
        due("put for 1", round.wins(21), 23145);
        due("put for 4", round.wins(24), NONE);
        VotedBank empty = new VotedBank();
        due("nobody", empty.wins(1), NONE);
        due("all alike: the one put earlier", empty.wins(25), 51234);
        Due.tells(round, 0, "shells 0;", 1);
        due("without shells 1 is left", round.wins(1), 1);
        VotedBank over = bank(12345);
        over.stay(0, true);
        due("nobody not over", over.wins(1), NONE);
        due("no points", over.wins(11), 0);
    }

    private static void boatsAreNeeded() {
        VotedBank x = bank(12345, 13245, 14235, 21345, 31245, 32145, 51234);
        int[] boats = {7, 5, 4, 4};
        int[] crossings = {NONE, 11, 5, 3, 3, 3, 1, 1};
        for (int c = 1; c <= 4; c++) {
            due("boats(" + c + ", 0)", x.boats(c, 0), boats[c - 1]);
        }
        for (int c = 1; c <= 8; c++) {
            due("boats(" + c + ", 1)", x.boats(c, 1), crossings[c - 1]);
        }
        due("boats(12, 0)", x.boats(12, 0), 4);
        due("boats(12, 1)", x.boats(12, 1), 1);
        due("boats(13, 1)", x.boats(13, 1), NONE);
        due("boats(0, 1)", x.boats(0, 1), NONE);
        due("boats(13, 0)", x.boats(13, 0), NONE);
        due("other what", x.boats(3, 2), NONE);
        due("other what", x.boats(3, -1), NONE);
        x.stay(0, true);
        due("who is over needs none", x.boats(1, 0), 6);
        VotedBank one = bank(12345);
        due("alone", one.boats(1, 1), 1);
        due("alone", one.boats(5, 1), 1);
        one.stay(0, true);
        due("nobody", one.boats(2, 0), 0);
        due("nobody", one.boats(2, 1), 0);
    }

    private static void reachesAlongEars() {
        VotedBank x = bank(12345, 12345, 12345, 12345, 12345);
        Due.tells(x, 1, "passenger 1 hears 0;passenger 2 hears 1;passenger 3 hears 2;passenger 1 hears 3;", 4);
        due("reaches(0)", x.reaches(0), 14);
        due("by a round himself", x.reaches(1), 14);
        due("reaches(4)", x.reaches(4), 0);
        x.stay(2, true);
        due("over or not", x.reaches(0), 14);
        due("none such", x.reaches(5), NONE);
        due("none such", x.reaches(-1), NONE);
    }

    private static void alikeAndNearest() {
        VotedBank x = bank(12345, 54321, 12354, 12354);
        due("alike(0, 1)", x.alike(0, 1), 10);
        due("alike(0, 2)", x.alike(0, 2), 1);
        due("alike(2, 3)", x.alike(2, 3), 0);
        due("alike(1, 1)", x.alike(1, 1), 0);
        due("of several the least", x.alike(0, NONE), 2);
        due("nearest", x.alike(1, NONE), 2);
        x.stay(2, true);
        due("not over", x.alike(0, NONE), 3);
        due("of one over", x.alike(2, NONE), 3);
        due("of one over", x.alike(2, 0), 1);
        due("none such", x.alike(4, 0), NONE);
        due("none such", x.alike(0, 4), NONE);
        due("none such", x.alike(-1, NONE), NONE);
        due("none such", x.alike(0, -2), NONE);
        due("no other one", bank(12345).alike(0, NONE), NONE);
    }

    private static void middleOfAll() {
        VotedBank x = bank(12345, 12354, 21345);
        due("middle(0)", x.middle(0), 12345);
        due("middle(1)", x.middle(1), 2);
        x.stay(0, true);
        due("of several the least", x.middle(0), 12345);
        due("middle(1)", x.middle(1), 2);
        x.stay(1, true);
        due("one alone", x.middle(0), 21345);
        due("middle(1)", x.middle(1), 0);
        due("other what", x.middle(2), NONE);
        due("other what", x.middle(-1), NONE);
        Due.tells(x, 0, "shells 9 when child=1;", 1);
        x.passenger(54321, true, 0, 0);
        due("by heads, not by shells", x.middle(1), 9);
    }

    private static void seenBanks() {
        VotedBank x = new VotedBank();
        due("seen(6)", x.seen(6), NONE);
        due("seen(-2)", x.seen(-2), NONE);
        for (int i = 1; i <= 20; i++) {
            due("seen " + i, x.seen(i % 6), i);
        }
        due("a 21st", x.seen(0), NONE);
        due("look(13)", x.look(13), 20);
        due("nothing is then", x.seen(NONE), 0);
        due("look(13)", x.look(13), 0);
        due("seen(0)", x.seen(0), 1);
    }

    private static void beganSomewhere() {
        VotedBank x = new VotedBank();
        due("all", x.began(0), 594);
        due("the least", x.began(1), 0);
        x.seen(2);
        due("began(0)", x.began(0), 99);
        due("began(1)", x.began(1), 200);
        Due.tells(x, 3, "bank 2 behind 50 is 3;bank 3 behind 2 is 2;", 2);
        x.seen(2);
        due("48 and less", x.began(0), 49);
        x.seen(3);
        due("48 alone", x.began(0), 1);
        due("began(1)", x.began(1), 248);
        x.seen(3);
        x.seen(2);
        due("a round", x.began(1), 248);
        x.seen(4);
        due("never", x.began(0), 0);
        due("never", x.began(1), NONE);
        due("other what", x.began(2), NONE);
        due("other what", x.began(-1), NONE);
    }

    private static void bribesAreTold() {
        VotedBank x = new VotedBank();
        due("passengers to come too", x.bribe(11, 99), true);
        due("bribe(0, 0)", x.bribe(0, 0), true);
        due("bribe(12, 1)", x.bribe(12, 1), false);
        due("bribe(-1, 1)", x.bribe(-1, 1), false);
        due("bribe(0, 100)", x.bribe(0, 100), false);
        due("bribe(0, -1)", x.bribe(0, -1), false);
        x.passenger(12345, false, 0, 0);
        due("costs(2, 0)", x.costs(2, 0), 0);
        due("costs(2, 1)", x.costs(2, 1), 1);
    }

    private static void costsOfABank() {
        VotedBank x = bank(12345, 12345, 12345, 21345, 21345);
        due("it has most", x.costs(1, 0), 0);
        due("nobody", x.costs(1, 1), 0);
        due("one of three", x.costs(2, 0), 1);
        due("of several sets the least", x.costs(2, 1), 1);
        due("3 for one that nobody wants", x.costs(3, 0), 3);
        due("of several sets the least", x.costs(3, 1), 7);
        x.bribe(0, 3);
        x.bribe(1, 0);
        due("the cheapest", x.costs(2, 0), 0);
        due("whom", x.costs(2, 1), 2);
        x.stay(1, true);
        due("not over", x.costs(2, 0), 1);
        due("not over", x.costs(2, 1), 4);
        due("no such land", x.costs(0, 0), NONE);
        due("no such land", x.costs(6, 0), NONE);
        due("other what", x.costs(1, 2), NONE);
        due("other what", x.costs(1, -1), NONE);
        Due.tells(x, 0, "shells 0;", 1);
        due("by none", x.costs(1, 0), NONE);
        due("by none", x.costs(1, 1), NONE);
    }

    private static void gameOfShells() {
        VotedBank x = new VotedBank();
        due("no shells: he loses", x.game(0), NONE);
        x.passenger(12345, false, 0, 0);
        due("all of one", x.game(0), 0);
        due("all of one", x.game(1), 2);
        x.passenger(12345, false, 0, 0);
        due("2 and 2: he loses", x.game(0), NONE);
        due("2 and 2: he loses", x.game(1), NONE);
        x.passenger(12345, true, 0, 0);
        due("2, 2 and 1: the 1", x.game(0), 2);
        due("2, 2 and 1: the 1", x.game(1), 1);
        Due.tells(x, 0, "shells 3+child*2;", 1);
        due("3, 3 and 5: by 3, 3 alone he would lose", x.game(0), 0);
        due("all of it, since 2 is worth more", x.game(1), 3);
        x.stay(0, true);
        due("3 and 5: he loses", x.game(0), NONE);
        due("other what", x.game(2), NONE);
        due("other what", x.game(-1), NONE);
    }

    private static void undoGoesBack() {
        VotedBank x = bank(12345, 21345);
        Due.tells(x, 1, "passenger 0 hears 1;", 1);
        Due.tells(x, 0, "sway 1000;abstain 1000 when firm=0 and turned=0;", 2);
        due("cross(3)", x.cross(3), 2);
        due("state", x.look(8) == 0, false);
        due("undo()", x.undo(), true);
        due("rank", x.of(0, 0), 12345);
        due("turned", x.of(0, 6), 0);
        due("waded", x.of(1, 5), 0);
        for (int what = 1; what <= 8; what++) {
            due("look(" + what + ")", x.look(what), 0);
        }
        due("nothing more", x.undo(), false);
        Due.tells(x, 0, "", 0);
        for (int i = 1; i <= 8; i++) {
            x.cross(2);
            due("kept", x.look(14), Math.min(i, 6));
        }
        for (int i = 7; i >= 2; i--) {
            due("undo()", x.undo(), true);
            due("crossed", x.look(5), i);
            due("lines", x.look(7), i);
        }
        due("six are kept", x.undo(), false);
        x.stay(0, true);
        x.stay(0, false);
        due("undo()", x.undo() && x.look(6) == 1, true);
        due("undo()", x.undo() && x.look(6) == 0, true);
        due("nothing that can't be is kept", x.cross(0) == NONE && !x.stay(0, false) && x.look(14) == 0, true);
    }

    private static void undoIsForgotten() {
        VotedBank x = bank(12345, 21345);
        x.cross(1);
        Due.tells(x, 0, "shells 3;", 1);
        Due.tells(x, 3, "bank 1 behind 9 is 2;", 1);
        x.seen(1);
        x.bribe(0, 5);
        x.image(true);
        Due.faults(x, 1, "?", 1, 0);
        due("refused", x.passenger(0, false, 0, 0), NONE);
        due("refused", x.set(0, 0, 10), false);
        due("still there", x.look(14), 1);
        due("undo()", x.undo(), true);
        due("the law stays", x.of(0, 8), 3);
        due("the seasons stay", x.season(1, 0), 9);
        due("what was seen stays", x.look(13), 1);
        due("bribes stay", x.costs(2, 0), 5);
        for (int i = 0; i < 6; i++) {
            x.cross(1);
            due("one to undo", x.look(14), 1);
            boolean told = i == 0 ? x.state(3) == 0 : i == 1 ? x.passenger(12345, false, 0, 0) == 2
                    : i == 2 ? x.set(4, 0, 5) : i == 3 ? x.text(1) == 0 : i == 4 ? x.text(2) == 0 : x.image(false);
            due("told", told, true);
            due("forgotten", x.look(14), 0);
            due("nothing to undo", x.undo(), false);
        }
    }

    private static void imageGoesBack() {
        VotedBank x = bank(12345, 21345);
        due("none yet", x.image(false), false);
        Due.tells(x, 0, "shells 4;", 1);
        Due.tells(x, 1, "passenger 0 hears 1;", 1);
        Due.tells(x, 2, "row 0;", 1);
        Due.tells(x, 3, "bank 4 behind 9 is 2;", 1);
        x.seen(3);
        x.bribe(0, 7);
        x.set(0, 0, 2);
        x.state(99);
        x.stay(1, true);
        x.cross(1);
        due("taken", x.image(true), true);
        for (int round = 0; round < 2; round++) {
            x.undo();
            x.undo();
            x.passenger(31245, false, 0, 0);
            x.set(3, 0, 54321);
            x.stay(1, true);
            x.cross(1);
            for (int k = 0; k < 4; k++) {
                x.text(k);
            }
            x.seen(NONE);
            x.bribe(0, 1);
            x.state(5);
            Due.feed(x, "sway 1;");
            due("gone back to", x.image(false), true);
            int[] want = {2, 1, 0, 2, 5, 1, 2, 2, 99, 1, 1, 1, 1, 1, 0};
            for (int what = 0; what < want.length; what++) {
                due("look(" + what + ")", x.look(what), round == 0 || what > 0 ? want[what] : 2);
            }
            due("rank", x.of(0, 0), 12345);
            due("law", x.of(0, 8), 4);
            due("ears", x.of(0, 7), 2);
            due("season", x.season(4, 1), 2);
            due("began", x.began(0), 99);
            due("bribe", x.costs(2, 0), 7);
            line(x, 0, 0, 4, 1, 0);
            line(x, 1, 0, 2, NONE, 1);
            due("the tape is not of it", x.end(7), true);
            x.end(0);
            due("log()", x.log(), 1);
        }
    }

    /** Twice, since an object is asked 512 times at most: first one half of the lines, then the other. */
    private static void imageHoldsAllLines() {
        imageHoldsLines(0, 72);
        imageHoldsLines(72, 144);
    }

    private static void imageHoldsLines(int from, int until) {
        VotedBank x = bank(12345, 21345);
        Due.tells(x, 2, "row 0;row 1;row 0;row 1;row 0;row 1;row 0;row 1;row 0;row 1;row 0;row 1;", 12);
        for (int i = 0; i < 12; i++) {
            x.log();
        }
        x.image(true);
        for (int i = 0; i < 6; i++) {
            x.undo();
        }
        for (int i = 0; i < 80; i++) {
            x.stay(0, i % 2 == 0);
        }
        x.cross(3);
        due("image(false)", x.image(false), true);
        due("lines", x.look(7), 144);
        for (int i = from; i < until; i++) {
            line(x, i, i, 2, NONE, 1 + i % 2);
        }
    }

    private static void lookTells() {
        VotedBank x = bank(12345, 21345, 31245);
        Due.tells(x, 0, "sway 0;", 1);
        Due.tells(x, 1, "passenger 0 hears 1;passenger 1 hears 0;", 2);
        Due.tells(x, 2, "row 0;row 1;row 2;", 3);
        Due.tells(x, 3, "bank 5 behind 1 is 1;bank 5 behind 1 is 1;bank 4 behind 1 is 1;bank 4 behind 1 is 1;", 4);
        x.set(0, 0, 7);
        x.set(1, 0, 3);
        x.set(2, 0, 41);
        x.stay(0, true);
        x.cross(4);
        x.seen(1);
        int[] want = {3, 3, 42, 7, 10, 1, 1, 2, 0, 1, 2, 3, 4, 1, 2};
        for (int what = 0; what < want.length; what++) {
            due("look(" + what + ")", x.look(what), want[what]);
        }
        due("look(15)", x.look(15), NONE);
        due("look(-1)", x.look(-1), NONE);
        due("two draws are no more than that", TWO_DRAWS, ONE_DRAW * 1664525 + 1013904223);
    }
}
