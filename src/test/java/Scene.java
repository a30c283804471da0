import java.util.ArrayList;
import java.util.List;

/**
 * Objects in which as much as can be was told and done. Each scene can be made again and again: what a call leaves
 * behind is found by asking all of two objects, of which one alone had the call.
 */
enum Scene {
    /** Nothing was told. */
    NEW,
    /** Something of everything; acts to undo, an image, a fault, signs on the tape. */
    BUSY,
    /** Twelve passengers, twenty seen, 150 lines, a full tape, six acts to undo, all but two over. */
    FULL;

    static final String TAPE = "shells 6;sway 7;";

    VotedBank made() {
        VotedBank x = new VotedBank();
        if (this == BUSY) {
            makeBusy(x);
        } else if (this == FULL) {
            makeFull(x);
        }
        return x;
    }

    private static void makeBusy(VotedBank x) {
        x.passenger(12345, false, 5, 0);
        x.passenger(21345, false, 3, 5);
        x.passenger(31245, true, 9, 9);
        x.passenger(54321, false, 0, 2);
        x.passenger(45123, true, 7, 1);
        Due.tell(x, 0, "sway 900-100*firm;abstain 600 when child=1 and minute>0;shells 3-child when bank<6;");
        Due.tell(x, 1, "passenger 0 hears 2;passenger 1 hears 0;passenger 3 hears 4;");
        Due.tell(x, 2, "row 0 1 stay 1;row 2 3 4;");
        Due.tell(x, 3, "bank 1 behind 2 is 4;bank 0 behind 3 is 2;");
        x.set(0, 0, 1);
        x.seen(1);
        x.bribe(0, 7);
        x.image(true);
        x.state(77);
        x.set(2, 0, 41);
        x.seen(1);
        x.bribe(3, 0);
        x.cross(31);
        x.stay(4, true);
        x.log();
        Due.tell(x, 0, "sway 1/0;");
        Due.feed(x, TAPE);
    }

    private static void makeFull(VotedBank x) {
        for (int p = 0; p < 12; p++) {
            x.passenger(p % 2 == 0 ? 12345 : 54321, p % 3 == 0, p % 10, 9 - p % 10);
        }
        Due.tell(x, 1, "passenger 0 hears 1;passenger 11 hears 10;");
        Due.tell(x, 2, "row 0;row 1;row 2;row 3;row 4;row 5;row 6;row 7;row 8;row 9;row 0;row 1;row 2;row 3;row 4;row 5;");
        Due.tell(x, 3, "bank 5 behind 99 is 0;");
        for (int i = 0; i < 20; i++) {
            x.seen(5);
        }
        x.image(true);
        for (int p = 0; p < 10; p++) {
            x.stay(p, true);
        }
        x.cross(3072);
        for (int i = 0; i < 2; i++) {
            x.stay(0, false);
            x.stay(1, false);
            x.stay(2, false);
            x.stay(3, false);
            x.stay(4, false);
            for (int log = 0; log < 7; log++) {
                x.log();
            }
            for (int p = 0; p < 5; p++) {
                x.stay(p, true);
            }
        }
        x.cross(2048);
        Due.feed(x, TAPE + " ".repeat(400 - TAPE.length()));
    }

    /** All that can be asked of an object, then what can be undone in it, and where its image leads. */
    static List<String> traces(VotedBank x) {
        List<String> traces = new ArrayList<>();
        addLooks(traces, x, "");
        traces.add("fault(0) " + x.fault(0));
        traces.add("fault(1) " + x.fault(1));
        for (int p = 0; p < Math.min(x.look(0), 12); p++) {
            for (int what = 0; what <= (p < 5 ? 9 : 0); what++) {
                traces.add("of(" + p + ", " + what + ") " + x.of(p, what));
            }
        }
        for (int land = 0; land <= 5; land++) {
            traces.add("season(" + land + ", 0) " + x.season(land, 0));
            traces.add("season(" + land + ", 1) " + x.season(land, 1));
        }
        for (int i : new int[] {0, 1, 2, 3, 4, 5, 6, 7, 8, 9, 74, 148, 149}) {
            for (int what = 0; what <= 3; what++) {
                traces.add("book(" + i + ", " + what + ") " + x.book(i, what));
            }
        }
        traces.add("sway(1, 2) " + x.sway(1, 2));
        traces.add("began(0) " + x.began(0));
        traces.add("began(1) " + x.began(1));
        for (int land = 1; land <= 5; land++) {
            traces.add("costs(" + land + ", 0) " + x.costs(land, 0));
            traces.add("costs(" + land + ", 1) " + x.costs(land, 1));
        }
        for (int i = 0; i < 7; i++) {
            boolean undone = x.undo();
            traces.add("undo " + i + " " + undone);
            if (undone) {
                addLooks(traces, x, "undone " + i + ", ");
                traces.add("undone " + i + ", of(0, 0) " + x.of(0, 0));
                traces.add("undone " + i + ", of(3, 6) " + x.of(3, 6));
                traces.add("undone " + i + ", of(4, 5) " + x.of(4, 5));
            }
        }
        addTape(traces, x);
        traces.add("image(false) " + x.image(false));
        addLooks(traces, x, "image, ");
        for (int p = 0; p < 5; p++) {
            traces.add("image, of(" + p + ", 0) " + x.of(p, 0));
            traces.add("image, of(" + p + ", 6) " + x.of(p, 6));
            traces.add("image, of(" + p + ", 8) " + x.of(p, 8));
        }
        return traces;
    }

    private static void addLooks(List<String> traces, VotedBank x, String when) {
        for (int what = 0; what <= 14; what++) {
            traces.add(when + "look(" + what + ") " + x.look(what));
        }
    }

    /** How long the tape is, and what stands on it, as the law that it makes. */
    private static void addTape(List<String> traces, VotedBank x) {
        for (int n : new int[] {400, 399, TAPE.length() + 1, TAPE.length()}) {
            traces.add("end(" + n + ") " + x.end(n));
        }
        traces.add("feed of blanks " + x.feed(0x20202020, 0x20202020, 0x20202020, 0x20202020, 0x20202020));
        traces.add("text(0) " + x.text(0));
        traces.add("its fault(0) " + x.fault(0));
        traces.add("its fault(1) " + x.fault(1));
        traces.add("its of(0, 8) " + x.of(0, 8));
        traces.add("its sway(0, 1) " + x.sway(0, 1));
    }
}
