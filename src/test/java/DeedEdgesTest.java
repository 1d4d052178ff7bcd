/** The edges of promises 5 to 10: items, and what is done to them and undone. */
public final class DeedEdgesTest extends Checks {
    private static final String ALL_SORTS = "o7;l a;j a;a8;c a;i;";
    private static final int OP = 0, LABEL = 1, JUMP = 2, ALIGN = 3, CALL = 4, SPOT = 5;
    private static final String EIGHT_LABELS = "l a;l b;l c;l d;l e;l f;l g;l h;";

    public static void main(String[] args) throws IllegalAccessException {
        runAll(DeedEdgesTest.class);
    }

    private static void nothingMayBeUndone(JumpLengths x) {
        due("count(7), how many may be undone", x.count(7), 0);
        due("undo() of none", x.undo(), STATE);
    }

    // ---- promise 5

    private static void itemsFrom0ToTheLast() {
        says("Promise 5", "Of an ITEM: 0 its sort (0 OP, 1 LABEL, 2 JUMP, 3 ALIGN, 4 CALL, 5 SPOT)");
        JumpLengths x = told(ALL_SORTS);
        for (int k = 0; k < 6; k++) due("item(" + k + ", 0)", x.item(k, 0), k);
        for (int k : new int[] {-1, 6, 31, 32, 33, LOWEST, HIGHEST}) {
            for (int what = 0; what < 3; what++) due("item(" + k + ", " + what + ")", x.item(k, what), BAD);
        }
        x = told("o1;".repeat(31) + "a16;");
        due("item(31, 0) of 32", x.item(31, 0), ALIGN);
        due("item(31, 1) of 32", x.item(31, 1), 16);
        due("item(32, 0) of 32", x.item(32, 0), BAD);
        // Fewer items than before: those behind are no more.
        type(x, "o1;");
        x.source();
        due("item(0, 0) of one", x.item(0, 0), OP);
        due("item(1, 0) of one", x.item(1, 0), BAD);
        due("item(31, 0) of one", x.item(31, 0), BAD);
    }

    private static void whatIsAskedOfAnItem() {
        says("Promise 5", "2 whether it is PINNED (1, 0; of a JUMP, else 0). BAD.");
        JumpLengths x = told(ALL_SORTS);
        for (int k = 0; k < 6; k++) {
            for (int what : new int[] {-1, 3, LOWEST, HIGHEST}) due("item(" + k + ", " + what + ")", x.item(k, what), BAD);
            due("item(" + k + ", 2) ahead of pins", x.item(k, 2), 0);
        }
        x.pins(JUMP);
        for (int k = 0; k < 6; k++) due("item(" + k + ", 2) behind pins", x.item(k, 2), k == JUMP ? 1 : 0);
        x.pins(JUMP);
        due("item(2, 2) no more", x.item(JUMP, 2), 0);
    }

    private static void whatItemsHaveAtTheirEdges() {
        says("Promise 5", "1 its SIZE, its LABEL (0 .. 7), what it aligns to, how many ISLANDS");
        JumpLengths x = told("o1;o60;l a;l h;j a;j h;c a;c h;a2;a16;i;l b;l c;l d;l e;");
        int[] wants = {1, 60, 0, 7, 0, 7, 0, 7, 2, 16, 0};
        for (int k = 0; k < wants.length; k++) due("item(" + k + ", 1)", x.item(k, 1), wants[k]);
        int[] labels = {0, 7, 1, 2, 3, 4};
        for (int n = 0; n < labels.length; n++) {
            x.places(0, labels[n]);
            due("item(10, 1) with islands", x.item(10, 1), n + 1);
        }
        x.sizes(0, 60);
        x.sizes(1, 1);
        due("item(0, 1) sized", x.item(0, 1), 60);
        due("item(1, 1) sized", x.item(1, 1), 1);
    }

    // ---- promise 6

    private static void sizesAre1To60() {
        says("Promise 6", "SIZED (1 .. 60): the SIZE till then.");
        JumpLengths x = told("o30;");
        due("sizes(0, 1)", x.sizes(0, 1), 30);
        due("sizes(0, 60)", x.sizes(0, 60), 1);
        for (int size : new int[] {0, 61, -1, -60, 62, 256 + 5, LOWEST, HIGHEST}) due("sizes(0, " + size + ")", x.sizes(0, size), BAD);
        due("item(0, 1) behind what was refused", x.item(0, 1), 60);
        due("count(7) behind what was refused", x.count(7), 2);
        due("sizes(0, 59)", x.sizes(0, 59), 60);
        int before = 59;
        for (int size = 1; size <= 58; size++) {
            due("sizes(0, " + size + ")", x.sizes(0, size), before);
            due("way(0, 0) of it", x.way(0, 0), size);
            before = size;
        }
    }

    private static void onlyOpsAreSized() {
        says("Promise 6", "BAD: also no OP");
        JumpLengths x = told(ALL_SORTS);
        for (int k : new int[] {LABEL, JUMP, ALIGN, CALL, SPOT, -1, 6, 32, LOWEST, HIGHEST}) {
            due("sizes(" + k + ", 5)", x.sizes(k, 5), BAD);
        }
        nothingMayBeUndone(x);
        x = told("o1;".repeat(32));
        due("sizes(31, 2) of 32", x.sizes(31, 2), 1);
        due("sizes(32, 2) of 32", x.sizes(32, 2), BAD);
    }

    private static void aSizeThatIsSo() {
        says("Promise 6", "STATE: it is so.");
        JumpLengths x = told("o1;o60;");
        due("sizes(0, 1) as told", x.sizes(0, 1), STATE);
        due("sizes(1, 60) as told", x.sizes(1, 60), STATE);
        nothingMayBeUndone(x);
        due("sizes(0, 9)", x.sizes(0, 9), 1);
        due("sizes(0, 9) again", x.sizes(0, 9), STATE);
        due("sizes(0, 1) as told is another now", x.sizes(0, 1), 9);
        due("count(7)", x.count(7), 2);
    }

    private static void badIsAheadOfStateForSizes() {
        says("Terms", "Refused, and nothing changes, the first of these: BAD");
        // What the ALIGN, the LABEL have is 8, 2: it is so, but they are no OPS.
        JumpLengths x = told("o8;a8;l c;c c;j c;");
        due("sizes(1, 8)", x.sizes(1, 8), BAD);
        for (int k = 2; k < 5; k++) due("sizes(" + k + ", 2)", x.sizes(k, 2), BAD);
        due("sizes(0, 8)", x.sizes(0, 8), STATE);
    }

    // ---- promise 7

    private static void onlyJumpsArePinned() {
        says("Promise 7", "PINNED, or no more: 1 it is then, 0. BAD: also no JUMP.");
        JumpLengths x = told(ALL_SORTS);
        for (int k : new int[] {OP, LABEL, ALIGN, CALL, SPOT, -1, 6, 32, LOWEST, HIGHEST}) due("pins(" + k + ")", x.pins(k), BAD);
        nothingMayBeUndone(x);
        due("pins(2)", x.pins(JUMP), 1);
        due("pins(2) again", x.pins(JUMP), 0);
        due("pins(2) once more", x.pins(JUMP), 1);
        due("count(7)", x.count(7), 3);
    }

    private static void allTenJumpsArePinned() {
        says("Promise 7", "PINNED, or no more: 1 it is then, 0. BAD: also no JUMP.");
        JumpLengths x = told("r127;" + "o1;".repeat(21) + "l a;" + "j a;".repeat(10));
        for (int n = 0; n < 10; n++) {
            due("pins(" + (22 + n) + ")", x.pins(22 + n), 1);
            for (int way : WAYS) due("way(" + way + ", 1)", x.way(way, 1), (1 << n + 1) - 1);
        }
        due("pins(32)", x.pins(32), BAD);
        for (int n = 0; n < 10; n++) due("pins(" + (22 + n) + ") no more", x.pins(22 + n), 0);
        due("way(0, 1)", x.way(0, 1), 0);
    }

    // ---- promise 8

    private static void spotsAsTheyCome() {
        says("Promise 8", "in SPOT n (0, 1, .. as they come)");
        String[] sources = {"l a;", "l a;i;", "i;l a;i;", "i;i;l a;i;"};
        for (int spots = 0; spots < sources.length; spots++) {
            JumpLengths x = told(sources[spots]);
            for (int n : new int[] {-1, spots, spots + 1, 3, 4, 32, LOWEST, HIGHEST}) {
                if (n >= 0 && n < spots) continue;
                due("places(" + n + ", 0) of " + spots, x.places(n, 0), BAD);
                due("takes(" + n + ", 0) of " + spots, x.takes(n, 0), BAD);
            }
            nothingMayBeUndone(x);
            for (int n = 0; n < spots; n++) due("places(" + n + ", 0) of " + spots, x.places(n, 0), n + 1);
        }
        JumpLengths x = told("i;i;l a;i;");
        x.places(2, 0);
        due("the first spot", x.item(0, 1), 0);
        due("the second spot", x.item(1, 1), 0);
        due("the third spot", x.item(3, 1), 1);
    }

    private static void labelsThatAreThere() {
        says("Promise 8", "An ISLAND of a LABEL that is there is PLACED");
        JumpLengths x = told("l b;l g;i;");
        for (int label : new int[] {-1, 0, 2, 5, 7, 8, 9, 'b', LOWEST, HIGHEST}) {
            due("places(0, " + label + ")", x.places(0, label), BAD);
            due("takes(0, " + label + ")", x.takes(0, label), BAD);
        }
        nothingMayBeUndone(x);
        due("places(0, 1)", x.places(0, 1), 1);
        due("places(0, 6)", x.places(0, 6), 2);
        x = told("l a;l h;i;");
        due("places(0, 0)", x.places(0, 0), 1);
        due("places(0, 7)", x.places(0, 7), 2);
        x = told("i;");
        for (int label = -1; label < 9; label++) due("places(0, " + label + ") of no label", x.places(0, label), BAD);
    }

    private static void anIslandIsPlacedOnce() {
        says("Promise 8", "STATE: it is placed");
        says("Terms", "(a SPOT, a LABEL) placed, each once at most, 6 at most");
        JumpLengths x = told("l a;l b;i;i;");
        due("places(0, 0)", x.places(0, 0), 1);
        due("places(0, 0) again", x.places(0, 0), STATE);
        due("another spot", x.places(1, 0), 2);
        due("another label", x.places(0, 1), 3);
        due("places(0, 1) again", x.places(0, 1), STATE);
        due("count(6)", x.count(6), 3);
        due("count(7)", x.count(7), 3);
        due("takes(0, 0)", x.takes(0, 0), 2);
        due("places(0, 0) behind takes", x.places(0, 0), 3);
    }

    private static void theSeventhIslandIsTooMany() {
        says("Promise 8", "BAD; STATE: it is placed; FULL.");
        JumpLengths x = told("i;" + EIGHT_LABELS + "i;i;");
        for (int label = 0; label < 6; label++) due("places(0, " + label + ")", x.places(0, label), label + 1);
        for (int n = 0; n < 3; n++) due("places(" + n + ", 6)", x.places(n, 6), FULL);
        due("places(1, 0)", x.places(1, 0), FULL);
        due("count(6) behind what was refused", x.count(6), 6);
        due("count(7) behind what was refused", x.count(7), 6);
        due("the first spot behind what was refused", x.item(0, 1), 6);
        due("the last spot behind what was refused", x.item(10, 1), 0);
        due("way(0, 0) behind what was refused", x.way(0, 0), 30);
        due("takes(0, 5)", x.takes(0, 5), 5);
        due("places(2, 7) behind takes", x.places(2, 7), 6);
        due("places(0, 5)", x.places(0, 5), FULL);
    }

    private static void theSeventhIslandOverSpots() {
        says("Terms", "(a SPOT, a LABEL) placed, each once at most, 6 at most");
        JumpLengths x = told("i;l a;i;l b;i;l h;");
        int[] labels = {0, 1, 7};
        for (int n = 0; n < 3; n++) {
            due("places(" + n + ", 0)", x.places(n, 0), 2 * n + 1);
            due("places(" + n + ", 7)", x.places(n, 7), 2 * n + 2);
        }
        for (int n = 0; n < 3; n++) {
            for (int label : labels) due("places(" + n + ", " + label + ")", x.places(n, label), label == 1 ? FULL : STATE);
        }
        due("undo()", x.undo(), 5);
        due("places(0, 1) behind undo", x.places(0, 1), 6);
        due("places(2, 7), undone", x.places(2, 7), FULL);
    }

    private static void badAndStateAreAheadOfFull() {
        says("Terms", "Refused, and nothing changes, the first of these: BAD");
        JumpLengths x = told("i;l a;l b;l c;l d;l e;l f;l g;");
        for (int label = 0; label < 6; label++) x.places(0, label);
        due("a label that is not there", x.places(0, 7), BAD);
        due("no label", x.places(0, 8), BAD);
        due("no spot", x.places(1, 0), BAD);
        due("neither", x.places(-1, -1), BAD);
        due("one that is placed", x.places(0, 5), STATE);
        due("one more", x.places(0, 6), FULL);
        due("count(7)", x.count(7), 6);
    }

    // ---- promise 9

    private static void whatIsNotPlacedIsNotTaken() {
        says("Promise 9", "STATE: it is not placed.");
        JumpLengths x = told("l a;l h;i;i;");
        for (int n = 0; n < 2; n++) {
            due("takes(" + n + ", 0) of none", x.takes(n, 0), STATE);
            due("takes(" + n + ", 7) of none", x.takes(n, 7), STATE);
        }
        nothingMayBeUndone(x);
        x.places(1, 7);
        due("takes of another spot", x.takes(0, 7), STATE);
        due("takes of another label", x.takes(1, 0), STATE);
        due("takes(1, 7)", x.takes(1, 7), 0);
        due("takes(1, 7) again", x.takes(1, 7), STATE);
        due("count(7)", x.count(7), 2);
    }

    private static void sixAreTakenToNone() {
        says("Promise 9", "It is TAKEN: how many there are.");
        JumpLengths x = told("i;" + EIGHT_LABELS);
        for (int label = 2; label < 8; label++) x.places(0, label);
        for (int label = 7; label >= 2; label--) due("takes(0, " + label + ")", x.takes(0, label), label - 2);
        due("count(6)", x.count(6), 0);
        due("way(0, 0)", x.way(0, 0), 0);
    }

    private static void badIsAheadOfStateForTakes() {
        says("Terms", "Refused, and nothing changes, the first of these: BAD");
        JumpLengths x = told("l a;i;");
        due("a label that is not there, nor placed", x.takes(0, 1), BAD);
        due("no label", x.takes(0, 8), BAD);
        due("no label", x.takes(0, -1), BAD);
        due("no spot", x.takes(1, 0), BAD);
        due("no spot", x.takes(-1, 0), BAD);
        due("not placed", x.takes(0, 0), STATE);
    }

    // ---- promise 10

    private static void noneMayBeUndone() {
        says("Promise 10", "STATE: none.");
        nothingMayBeUndone(new JumpLengths());
        JumpLengths x = told(ALL_SORTS);
        nothingMayBeUndone(x);
        x.pins(JUMP);
        due("undo of one", x.undo(), 0);
        due("undo of none", x.undo(), STATE);
        due("undo of none again", x.undo(), STATE);
        due("whether it is pinned", x.item(JUMP, 2), 0);
    }

    private static void tenAreKnown() {
        says("Terms", "(10 are known, older ones are lost)");
        for (int done = 1; done <= 25; done++) {
            JumpLengths x = told("o1;");
            for (int n = 1; n <= done; n++) {
                due("sizes(0, " + (n + 1) + ")", x.sizes(0, n + 1), n);
                due("count(7) of " + n, x.count(7), Math.min(n, 10));
            }
            int known = Math.min(done, 10);
            for (int n = 1; n <= known; n++) {
                due("undo " + n + " of " + done, x.undo(), known - n);
                due("the size behind undo " + n + " of " + done, x.item(0, 1), done + 1 - n);
            }
            due("undo of those lost of " + done, x.undo(), STATE);
            due("the size stays", x.item(0, 1), done + 1 - known);
        }
    }

    /** One of the sort is done and so many others behind it; then all that are known are undone. */
    private static void undoneBehindOthers(int sort, int others, boolean isLost) {
        JumpLengths x = told(ALL_SORTS + "j a;");
        if (sort == 0) x.sizes(OP, 60);
        if (sort == 1) x.pins(JUMP);
        if (sort >= 2) x.places(0, 0);
        if (sort == 3) x.takes(0, 0);
        for (int n = 0; n < others; n++) x.pins(6);
        for (int n = 9; n >= 0; n--) due("undo of ten", x.undo(), n);
        due("undo of none", x.undo(), STATE);
        due("the size", x.item(OP, 1), isLost && sort == 0 ? 60 : 7);
        due("whether it is pinned", x.item(JUMP, 2), isLost && sort == 1 ? 1 : 0);
        // Of a TAKEN one that is known the PLACED one ahead of it is lost.
        boolean isPlaced = sort == 2 && isLost || sort == 3 && !isLost;
        due("the islands", x.count(6), isPlaced ? 1 : 0);
    }

    private static void theTenthAndTheEleventhOfEachSort() {
        says("Terms", "UNDONE: the latest SIZED, PINNED (or no more), PLACED, TAKEN");
        for (int sort = 0; sort < 4; sort++) {
            undoneBehindOthers(sort, 9, false);
            undoneBehindOthers(sort, 10, true);
        }
    }

    private static final String TWO_OF_EACH = "o5;o6;l a;l b;j a;j b;i;i;c a;";

    /** All that a deed on TWO_OF_EACH changes. */
    private static int[] seen(JumpLengths x) {
        return new int[] {x.item(0, 1), x.item(1, 1), x.item(4, 2), x.item(5, 2), x.item(6, 1), x.item(7, 1), x.count(6),
            x.way(0, 0), x.way(1, 0), x.way(2, 0), x.narrow(), x.fewest(1)};
    }

    private static void turnIsland(JumpLengths x, int n, int label) {
        if (x.places(n, label) == STATE) x.takes(n, label);
    }

    private static void doDeed(JumpLengths x, int deed, int size) {
        if (deed == 0 || deed == 1) x.sizes(deed, size);
        if (deed == 2 || deed == 3) x.pins(deed + 2);
        if (deed == 4) turnIsland(x, 0, 0);
        if (deed == 5) turnIsland(x, 1, 1);
    }

    private static void allIsAsAheadOfWhatIsUndone() {
        says("Terms", "all is as ahead of it.");
        int deeds = 14;
        for (int first = 0; first < 6; first++) {
            JumpLengths x = told(TWO_OF_EACH);
            int[][] ahead = new int[deeds][];
            for (int n = 0; n < deeds; n++) {
                ahead[n] = seen(x);
                doDeed(x, (first + n) % 6, 20 + n);
                due("count(7) behind deed " + n, x.count(7), Math.min(n + 1, 10));
            }
            for (int n = deeds - 1; n >= deeds - 10; n--) {
                due("undo of deed " + n, x.undo(), n - deeds + 10);
                int[] now = seen(x);
                for (int i = 0; i < now.length; i++) due("what is seen, " + i + ", ahead of deed " + n, now[i], ahead[n][i]);
            }
            due("undo of those lost", x.undo(), STATE);
        }
    }

    private static void whatIsUndoneMakesRoom() {
        says("Terms", "all is as ahead of it.");
        JumpLengths x = told("o1;");
        for (int size = 2; size <= 13; size++) x.sizes(0, size);
        x.undo();
        x.undo();
        due("count(7) of ten, two undone", x.count(7), 8);
        due("sizes behind undo", x.sizes(0, 40), 11);
        due("sizes behind undo", x.sizes(0, 41), 40);
        due("count(7) full again", x.count(7), 10);
        due("undo", x.undo(), 9);
        due("the size", x.item(0, 1), 40);
        due("undo", x.undo(), 8);
        due("the size", x.item(0, 1), 11);
        for (int n = 7; n >= 0; n--) due("undo", x.undo(), n);
        due("the size of the oldest that is known", x.item(0, 1), 3);
    }

    private static void whatIsRefusedIsNotUndone() {
        says("Terms", "Refused, and nothing changes");
        JumpLengths x = told("o7;l a;j a;i;");
        x.pins(2);
        x.sizes(0, 7);
        x.sizes(0, 61);
        x.sizes(1, 5);
        x.pins(0);
        x.takes(0, 0);
        x.places(1, 0);
        x.places(0, 1);
        due("count(7)", x.count(7), 1);
        due("undo()", x.undo(), 0);
        due("whether it is pinned", x.item(2, 2), 0);
        due("undo of none", x.undo(), STATE);
    }

    private static void onlyDeedsAreUndone() {
        says("Terms", "UNDONE: the latest SIZED, PINNED (or no more), PLACED, TAKEN");
        JumpLengths x = told("o7;l a;j a;i;");
        x.sizes(0, 8);
        x.keep(0);
        x.pins(2);
        x.back(0);
        type(x, "o1");
        x.source();
        x.clear();
        x.narrow();
        x.fewest(0);
        x.odds(2, 5, 0);
        due("count(7)", x.count(7), 1);
        due("undo()", x.undo(), 0);
        due("the size", x.item(0, 1), 7);
        due("undo of none", x.undo(), STATE);
    }

    private static void the512thCall() {
        says("What it is", "An object is used for at most 512 calls after it has been made");
        JumpLengths x = told("o1;l a;j a;i;");
        int calls = "o1;l a;j a;i;".length() + 1;
        for (int n = 0; calls < 508; n++) {
            due("sizes, call " + calls, x.sizes(0, 2 + n % 2), n == 0 ? 1 : 3 - n % 2);
            calls++;
        }
        due("call 509", x.pins(2), 1);
        due("call 510", x.places(0, 0), 1);
        due("call 511", x.undo(), 9);
        due("call 512", x.way(2, 0), 3 + 5);
    }
}
