import java.util.ArrayList;
import java.util.List;
import java.util.function.ToLongFunction;

/**
 * Every refused call of each promise: what it answers, and that nothing of it is left behind. And every question:
 * that it changes nothing. Two objects in the same scene are asked all; one of them had the call.
 */
public final class RefusedTest {
    private static final int NONE = VotedBank.NONE;
    private static final int MIN = Integer.MIN_VALUE;
    private static final int MAX = Integer.MAX_VALUE;
    private static final Scene[] ALL = Scene.values();
    private static final Scene[] NEW = {Scene.NEW};
    private static final Scene[] BUSY = {Scene.BUSY};
    private static final Scene[] FULL = {Scene.FULL};
    private static final Scene[] PEOPLED = {Scene.BUSY, Scene.FULL};
    private static final List<List<String>> UNTOUCHED = new ArrayList<>();

    private RefusedTest() {
    }

    public static void main(String[] args) {
        for (Scene scene : ALL) {
            UNTOUCHED.add(Scene.traces(scene.made()));
        }
        scenesAreAsTold();
        passengerRefused();
        setRefused();
        crossRefused();
        stayRefused();
        tapeRefused();
        textRefused();
        askingOfOneRefused();
        askingOfAllRefused();
        lawAndSeasonRefused();
        thoughtRefused();
        seenAndBribeRefused();
        undoAndImageRefused();
        questionsLeaveAll();
        Due.end();
    }

    private static void refused(Scene[] scenes, String call, ToLongFunction<VotedBank> made, long answer) {
        for (Scene scene : scenes) {
            VotedBank x = scene.made();
            Due.due(scene + ", " + call, made.applyAsLong(x), answer);
            leaves(scene, call, x);
        }
    }

    private static void leaves(Scene scene, String call, VotedBank x) {
        List<String> traces = Scene.traces(x);
        List<String> untouched = UNTOUCHED.get(scene.ordinal());
        String changed = "";
        for (int i = 0; i < untouched.size() && changed.isEmpty(); i++) {
            if (i >= traces.size() || !traces.get(i).equals(untouched.get(i))) {
                changed = (i < traces.size() ? traces.get(i) : "nothing") + " for " + untouched.get(i);
            }
        }
        Due.due(scene + ", " + call + " leaves behind " + changed, changed.isEmpty(), true);
    }

    private static long flag(boolean is) {
        return is ? 1 : 0;
    }

    private static void scenesAreAsTold() {
        Due.about("Scenes");
        VotedBank busy = Scene.BUSY.made();
        Due.due("busy: acts", busy.look(14), 3);
        Due.due("busy: passengers", busy.look(0), 5);
        Due.due("busy: over", busy.look(6), 18);
        Due.due("busy: fault", busy.fault(0), 2);
        Due.due("busy: seen", busy.look(13), 2);
        Due.due("busy: some were turned and some waded", busy.of(0, 6) + busy.of(3, 6) > 0 && busy.of(4, 5) > 0, true);
        VotedBank full = Scene.FULL.made();
        Due.due("full: passengers", full.look(0), 12);
        Due.due("full: lines", full.look(7), 150);
        Due.due("full: acts", full.look(14), 6);
        Due.due("full: seen", full.look(13), 20);
        Due.due("full: over", full.look(6), 1023);
        Due.due("full: tape", full.end(400), true);
    }

    private static void passengerRefused() {
        Due.about("Promise 3, passenger");
        int[] ranks = {12344, 12346, 54320, 54322, 12340, 10345, 2345, 123456, 112345, 11345, 12245, 12335, 12344, 12341,
            62345, 16345, 12645, 12365, 12346, -12345, 0, 12345 - 65536, MIN, MAX};
        for (int rank : ranks) {
            refused(BUSY, "passenger(" + rank + ")", x -> x.passenger(rank, true, 1, 1), NONE);
        }
        for (int v : new int[] {-1, 10, MIN, MAX}) {
            refused(BUSY, "talk " + v, x -> x.passenger(12345, false, v, 0), NONE);
            refused(BUSY, "firm " + v, x -> x.passenger(12345, false, 0, v), NONE);
        }
        refused(NEW, "passenger(12344)", x -> x.passenger(12344, false, 0, 0), NONE);
        refused(FULL, "a thirteenth", x -> x.passenger(12345, false, 0, 0), NONE);
    }

    private static void setRefused() {
        Due.about("Promise 4, set");
        for (int what : new int[] {-1, 6, MIN, MAX}) {
            refused(ALL, "another what " + what, x -> flag(x.set(what, 0, 1)), 0);
        }
        int[] most = {9, 5, 999, 0, 9, 9};
        for (int what : new int[] {0, 1, 2, 4, 5}) {
            for (int v : new int[] {-1, most[what] + 1, MIN, MAX}) {
                refused(BUSY, "set(" + what + ", 0, " + v + ")", x -> flag(x.set(what, 0, v)), 0);
            }
        }
        for (int v : new int[] {12344, 54322, 0, -12345, 11111, 123456, MIN, MAX}) {
            refused(BUSY, "set(3, 0, " + v + ")", x -> flag(x.set(3, 0, v)), 0);
        }
        for (int what = 3; what <= 5; what++) {
            int asked = what;
            int v = what == 3 ? 21345 : 4;
            for (int who : new int[] {-1, 5, 31, 32, 37, MIN, MAX}) {
                refused(BUSY, "set(" + what + ", " + who + ")", x -> flag(x.set(asked, who, v)), 0);
            }
            refused(FULL, "set(" + what + ", 12)", x -> flag(x.set(asked, 12, v)), 0);
            refused(NEW, "set(" + what + ", 0)", x -> flag(x.set(asked, 0, v)), 0);
        }
    }

    private static void crossRefused() {
        Due.about("Promise 5, cross");
        refused(ALL, "nobody", x -> x.cross(0), NONE);
        for (int set : new int[] {2, 16, 3, 17, 31, 32, 33, 4096, 1 << 30, MIN, MIN + 1, -1, MAX}) {
            refused(BUSY, "over ones, other ones: " + set, x -> x.cross(set), NONE);
        }
        for (int set : new int[] {1, 512, 4095, 1024 + 512, 4096, 1024 + 4096}) {
            refused(FULL, "over ones, other ones: " + set, x -> x.cross(set), NONE);
        }
        refused(NEW, "nobody is there", x -> x.cross(1), NONE);
    }

    private static void stayRefused() {
        Due.about("Promise 6, stay");
        refused(BUSY, "to stay, it is so", x -> flag(x.stay(1, true)), 0);
        refused(BUSY, "to bring, it is so", x -> flag(x.stay(0, false)), 0);
        refused(FULL, "to stay, it is so", x -> flag(x.stay(9, true)), 0);
        refused(FULL, "to bring, it is so", x -> flag(x.stay(11, false)), 0);
        for (boolean is : new boolean[] {true, false}) {
            for (int p : new int[] {-1, 5, 12, 32, 33, MIN, MAX}) {
                refused(BUSY, "none such " + p, x -> flag(x.stay(p, is)), 0);
            }
            refused(FULL, "none such 12", x -> flag(x.stay(12, is)), 0);
            refused(NEW, "none such 0", x -> flag(x.stay(0, is)), 0);
        }
    }

    private static void tapeRefused() {
        Due.about("Promise 8, feed");
        refused(FULL, "more than 400", x -> x.feed(1, 2, 3, 4, 5), NONE);
        Due.about("Promise 9, end");
        for (int n : new int[] {-1, 17, 20, 400, MIN, MAX}) {
            refused(BUSY, "end(" + n + ") of 16", x -> flag(x.end(n)), 0);
        }
        for (int n : new int[] {-1, 401, MIN, MAX}) {
            refused(FULL, "end(" + n + ") of 400", x -> flag(x.end(n)), 0);
        }
        refused(NEW, "end(1) of none", x -> flag(x.end(1)), 0);
        refused(NEW, "end(-1) of none", x -> flag(x.end(-1)), 0);
    }

    /** Such a text leaves the fault and an empty tape alone, so both objects have an empty tape and that fault. */
    private static void textRefused() {
        Due.about("Promise 10, text");
        for (int k : new int[] {-1, 4, MIN, MAX}) {
            for (Scene scene : ALL) {
                leavesTextsAs(scene, k, 0, NONE);
            }
        }
        for (int k = 0; k <= 3; k++) {
            for (Scene scene : PEOPLED) {
                leavesTextsAs(scene, k, 1, 0);
            }
        }
    }

    private static void leavesTextsAs(Scene scene, int k, int fault, int place) {
        VotedBank x = scene.made();
        x.end(0);
        int none = Due.tell(x, k, "?");
        Due.due(scene + ", text(" + k + ") of what is none", none, NONE);
        Due.due(scene + ", its fault", x.fault(0), fault);
        Due.due(scene + ", its place", x.fault(1), place);
        Due.due(scene + ", the tape is empty then", x.end(1), false);
        VotedBank y = scene.made();
        y.end(0);
        List<String> traces = Scene.traces(x);
        List<String> untouched = Scene.traces(y);
        traces.removeIf(s -> s.startsWith("fault("));
        untouched.removeIf(s -> s.startsWith("fault("));
        Due.due(scene + ", text(" + k + ") leaves all as it was", traces.equals(untouched), true);
    }

    private static void askingOfOneRefused() {
        for (int p : new int[] {-1, 5, 12, 32, MIN, MAX}) {
            Due.about("Promise 12, of");
            for (int what = 0; what <= 9; what++) {
                int asked = what;
                refused(BUSY, "of(" + p + ", " + what + ")", x -> x.of(p, asked), NONE);
            }
            Due.about("Promise 13, sway");
            refused(BUSY, "sway(" + p + ", 0)", x -> x.sway(p, 0), NONE);
            refused(BUSY, "sway(0, " + p + ")", x -> x.sway(0, p), NONE);
            Due.about("Promise 18, pivots");
            refused(BUSY, "pivots(" + p + ")", x -> x.pivots(p), NONE);
            Due.about("Promise 22, reaches");
            refused(BUSY, "reaches(" + p + ")", x -> x.reaches(p), NONE);
            Due.about("Promise 23, alike");
            refused(BUSY, "alike(" + p + ", 0)", x -> x.alike(p, 0), NONE);
            refused(BUSY, "alike(" + p + ", NONE)", x -> x.alike(p, NONE), NONE);
            if (p != NONE) {
                refused(BUSY, "alike(0, " + p + ")", x -> x.alike(0, p), NONE);
            }
        }
        Due.about("Promise 12, of");
        for (int what : new int[] {-1, 10, MIN, MAX}) {
            refused(PEOPLED, "another what " + what, x -> x.of(0, what), NONE);
        }
        Due.about("Promise 18, pivots");
        refused(BUSY, "he is over", x -> x.pivots(1), NONE);
        refused(FULL, "he is over", x -> x.pivots(9), NONE);
        Due.about("Promise 23, alike");
        refused(BUSY, "alike(0, -2)", x -> x.alike(0, -2), NONE);
        Due.about("Promises 12, 13, 18, 22, 23 with nobody");
        refused(NEW, "of(0, 0)", x -> x.of(0, 0), NONE);
        refused(NEW, "sway(0, 0)", x -> x.sway(0, 0), NONE);
        refused(NEW, "pivots(0)", x -> x.pivots(0), NONE);
        refused(NEW, "reaches(0)", x -> x.reaches(0), NONE);
        refused(NEW, "alike(0, 0)", x -> x.alike(0, 0), NONE);
        refused(NEW, "alike(0, NONE)", x -> x.alike(0, NONE), NONE);
        Due.about("Promises 12, 13, 18, 22, 23 with twelve");
        refused(FULL, "of(12, 0)", x -> x.of(12, 0), NONE);
        refused(FULL, "sway(12, 0)", x -> x.sway(12, 0), NONE);
        refused(FULL, "sway(0, 12)", x -> x.sway(0, 12), NONE);
        refused(FULL, "pivots(12)", x -> x.pivots(12), NONE);
        refused(FULL, "reaches(12)", x -> x.reaches(12), NONE);
        refused(FULL, "alike(12, 0)", x -> x.alike(12, 0), NONE);
        refused(FULL, "alike(0, 12)", x -> x.alike(0, 12), NONE);
    }

    private static void askingOfAllRefused() {
        for (int what : new int[] {-1, 2, MIN, MAX}) {
            Due.about("Promise 11, fault");
            refused(ALL, "fault(" + what + ")", x -> x.fault(what), NONE);
            Due.about("Promise 24, middle");
            refused(ALL, "middle(" + what + ")", x -> x.middle(what), NONE);
            Due.about("Promise 26, began");
            refused(ALL, "began(" + what + ")", x -> x.began(what), NONE);
            Due.about("Promise 29, game");
            refused(ALL, "game(" + what + ")", x -> x.game(what), NONE);
        }
        Due.about("Promise 32, look");
        for (int what : new int[] {-1, 15, MIN, MAX}) {
            refused(ALL, "look(" + what + ")", x -> x.look(what), NONE);
        }
        Due.about("Promise 20, wins");
        for (int what : new int[] {-1, 2, 3, 9, 10, 16, 17, 19, 20, 26, 30, 31, MIN, MIN + 21, MAX}) {
            refused(ALL, "wins(" + what + ")", x -> x.wins(what), NONE);
        }
        Due.about("Promise 21, boats");
        for (int c : new int[] {-1, 0, 13, MIN, MAX}) {
            refused(ALL, "boats(" + c + ", 0)", x -> x.boats(c, 0), NONE);
            refused(ALL, "boats(" + c + ", 1)", x -> x.boats(c, 1), NONE);
        }
        refused(PEOPLED, "boats(1, 1) of more than one", x -> x.boats(1, 1), NONE);
        for (int what : new int[] {-1, 2, MIN, MAX}) {
            refused(ALL, "boats(3, " + what + ")", x -> x.boats(3, what), NONE);
        }
    }

    private static void lawAndSeasonRefused() {
        Due.about("Promise 14, season");
        for (int land : new int[] {-1, 2, 6, MIN, MAX}) {
            refused(BUSY, "season(" + land + ", 0)", x -> x.season(land, 0), NONE);
            refused(BUSY, "season(" + land + ", 1)", x -> x.season(land, 1), NONE);
        }
        for (int what : new int[] {-1, 2, MIN, MAX}) {
            refused(BUSY, "season(1, " + what + ")", x -> x.season(1, what), NONE);
        }
        Due.about("Promise 15, book");
        for (int what : new int[] {-1, 4, MIN, MAX}) {
            refused(PEOPLED, "book(0, " + what + ")", x -> x.book(0, what), NONE - 1);
        }
        int lines = Scene.BUSY.made().look(7);
        for (int i : new int[] {-1, lines, lines + 1, 149, 150, MIN, MAX}) {
            refused(BUSY, "book(" + i + ", 0)", x -> x.book(i, 0), NONE - 1);
            refused(BUSY, "book(" + i + ", 3)", x -> x.book(i, 3), NONE - 1);
        }
        refused(FULL, "book(150, 0)", x -> x.book(150, 0), NONE - 1);
        refused(NEW, "book(0, 0)", x -> x.book(0, 0), NONE - 1);
    }

    private static void thoughtRefused() {
        Due.about("Promise 16, would");
        for (int what = 0; what <= 2; what++) {
            int asked = what;
            for (int set : new int[] {0, 2, 16, 3, 31, 32, 33, 4096, MIN, -1, MAX}) {
                refused(BUSY, "would(" + set + ", " + what + ")", x -> x.would(set, asked), NONE);
            }
        }
        for (int what : new int[] {-1, 3, MIN, MAX}) {
            refused(BUSY, "would(1, " + what + ")", x -> x.would(1, what), NONE);
        }
        for (int land : new int[] {-1, 0, 6, MIN, MAX}) {
            for (int what = 0; what <= 1; what++) {
                int asked = what;
                Due.about("Promise 17, makes");
                refused(BUSY, "makes(" + land + ", " + what + ")", x -> x.makes(land, asked), NONE);
                Due.about("Promise 28, costs");
                refused(BUSY, "costs(" + land + ", " + what + ")", x -> x.costs(land, asked), NONE);
            }
            Due.about("Promise 19, beats");
            refused(ALL, "beats(" + land + ", 1)", x -> x.beats(land, 1), NONE - 999);
            refused(ALL, "beats(1, " + land + ")", x -> x.beats(1, land), NONE - 999);
        }
        for (int land = 1; land <= 5; land++) {
            int both = land;
            refused(ALL, "alike, beats(" + land + ")", x -> x.beats(both, both), NONE - 999);
        }
        for (int what : new int[] {-1, 2, MIN, MAX}) {
            Due.about("Promise 17, makes");
            refused(BUSY, "makes(1, " + what + ")", x -> x.makes(1, what), NONE);
            Due.about("Promise 28, costs");
            refused(BUSY, "costs(1, " + what + ")", x -> x.costs(1, what), NONE);
        }
    }

    private static void seenAndBribeRefused() {
        Due.about("Promise 25, seen");
        for (int land : new int[] {-2, 6, MIN, MAX}) {
            refused(BUSY, "seen(" + land + ")", x -> x.seen(land), NONE);
        }
        for (int land : new int[] {0, 5, 6, -2}) {
            refused(FULL, "there are twenty, seen(" + land + ")", x -> x.seen(land), NONE);
        }
        Due.about("Promise 27, bribe");
        for (int v : new int[] {-1, 100, MIN, MAX}) {
            refused(BUSY, "bribe(0, " + v + ")", x -> flag(x.bribe(0, v)), 0);
        }
        for (int p : new int[] {-1, 12, 32, MIN, MAX}) {
            refused(ALL, "bribe(" + p + ", 9)", x -> flag(x.bribe(p, 9)), 0);
        }
    }

    private static void undoAndImageRefused() {
        Due.about("Promise 30, undo");
        refused(NEW, "there is nothing", x -> flag(x.undo()), 0);
        Due.about("Promise 31, image");
        refused(NEW, "there is none", x -> flag(x.image(false)), 0);
        VotedBank x = new VotedBank();
        x.passenger(12345, false, 0, 0);
        x.cross(1);
        Due.due("there is none", x.image(false), false);
        Due.due("that forgets nothing", x.look(14), 1);
        Due.due("and leaves the crossing", x.look(5), 1);
    }

    private static void questionsLeaveAll() {
        Due.about("Terms 4, in thought nothing stays; a question changes nothing");
        for (Scene scene : PEOPLED) {
            int set = scene == Scene.BUSY ? 13 : 3072;
            int who = scene == Scene.BUSY ? 0 : 10;
            for (int what = 0; what <= 2; what++) {
                int asked = what;
                leaves(scene, "would(" + what + ")", x -> x.would(set, asked));
            }
            for (int what = 0; what <= 1; what++) {
                int asked = what;
                leaves(scene, "makes", x -> x.makes(1, asked));
                leaves(scene, "boats", x -> x.boats(2, asked));
                leaves(scene, "middle", x -> x.middle(asked));
                leaves(scene, "began", x -> x.began(asked));
                leaves(scene, "costs", x -> x.costs(2, asked));
                leaves(scene, "game", x -> x.game(asked));
                leaves(scene, "wins", x -> x.wins(asked));
                leaves(scene, "season", x -> x.season(0, asked));
                leaves(scene, "fault", x -> x.fault(asked));
            }
            leaves(scene, "pivots", x -> x.pivots(who));
            leaves(scene, "beats", x -> x.beats(1, 2));
            leaves(scene, "wins(11)", x -> x.wins(11));
            leaves(scene, "wins(21)", x -> x.wins(21));
            leaves(scene, "reaches", x -> x.reaches(0));
            leaves(scene, "alike", x -> x.alike(0, 1));
            leaves(scene, "nearest", x -> x.alike(0, NONE));
            leaves(scene, "sway", x -> x.sway(0, 1));
            leaves(scene, "of(8)", x -> x.of(who, 8));
            leaves(scene, "of(9)", x -> x.of(who, 9));
            leaves(scene, "book", x -> x.book(0, 0));
            leaves(scene, "look", x -> x.look(8));
        }
    }

    private static void leaves(Scene scene, String call, ToLongFunction<VotedBank> asked) {
        VotedBank x = scene.made();
        asked.applyAsLong(x);
        leaves(scene, call, x);
    }
}
