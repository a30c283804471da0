/** What the tests share: it counts the answers that are not as due, and feeds texts. */
final class Due {
    private static final int SHOWN = 40;
    private static int asked = 0;
    private static int wrong = 0;
    private static String part = "";

    private Due() {
    }

    /** What of the document the answers that follow are about; it stands ahead of each that is wrong. */
    static void about(String sentence) {
        part = sentence + ": ";
    }

    static void due(String call, long got, long want) {
        asked++;
        if (got != want) {
            wrong++;
            if (wrong <= SHOWN) {
                System.out.println(part + call + " answered " + got + ", due is " + want);
            }
        }
    }

    static void due(String call, boolean got, boolean want) {
        due(call, got ? 1 : 0, want ? 1 : 0);
    }

    static void end() {
        System.out.println(asked + " answers, " + wrong + " not as due");
        if (wrong != 0 || asked == 0) {
            System.exit(1);
        }
    }

    /** Puts signs on the tape, and nothing else behind them. */
    static void feed(VotedBank bank, String signs) {
        for (int at = 0; at < signs.length(); at += 20) {
            int[] five = new int[5];
            for (int i = 0; i < 20; i++) {
                int sign = at + i < signs.length() ? signs.charAt(at + i) & 255 : ' ';
                five[i / 4] = five[i / 4] << 8 | sign;
            }
            int has = bank.feed(five[0], five[1], five[2], five[3], five[4]);
            if (has != at + 20) {
                due("feed of '" + signs + "'", has, at + 20);
            }
        }
        if (!bank.end(signs.length())) {
            due("end of '" + signs + "'", false, true);
        }
    }

    static int tell(VotedBank bank, int k, String signs) {
        feed(bank, signs);
        return bank.text(k);
    }

    static void tells(VotedBank bank, int k, String signs, int lines) {
        due("text " + k + " '" + signs + "'", tell(bank, k, signs), lines);
        due("fault of '" + signs + "'", bank.fault(0), 0);
        due("place of no fault", bank.fault(1), VotedBank.NONE);
    }

    static void faults(VotedBank bank, int k, String signs, int fault, int place) {
        due("text " + k + " '" + signs + "'", tell(bank, k, signs), VotedBank.NONE);
        due("fault of '" + signs + "'", bank.fault(0), fault);
        due("place of '" + signs + "'", bank.fault(1), place);
    }
}
