/**
 * Promises of the document with answers worked out by hand: ordinary inputs, and what comes of
 * several calls. The edges are in the tests named by them.
 */
public final class PromisesTest extends Checks {
    private static void items() {
        JumpLengths x = told("o7;l c;j h;a16;c c;i;l h;");
        int[][] wants = {{0, 7}, {1, 2}, {2, 7}, {3, 16}, {4, 2}, {5, 0}, {1, 7}};
        for (int k = 0; k < wants.length; k++) {
            due("item(" + k + ", 0)", x.item(k, 0), wants[k][0]);
            due("item(" + k + ", 1)", x.item(k, 1), wants[k][1]);
            due("item(" + k + ", 2)", x.item(k, 2), 0);
        }
        x.sizes(0, 60);
        x.pins(2);
        x.places(0, 7);
        x.places(0, 2);
        due("item(0, 1) sized", x.item(0, 1), 60);
        due("item(2, 1) pinned", x.item(2, 1), 7);
        due("item(2, 2) pinned", x.item(2, 2), 1);
        due("item(0, 2) of an OP", x.item(0, 2), 0);
        due("item(5, 1) with islands", x.item(5, 1), 2);
        for (int k : new int[] {-1, 7, 32, LOWEST, HIGHEST}) due("item(" + k + ", 0)", x.item(k, 0), BAD);
        for (int what : new int[] {-1, 3, LOWEST, HIGHEST}) due("item(0, " + what + ")", x.item(0, what), BAD);
    }

    private static void sizing() {
        JumpLengths x = told("r4;o5;l a;o6;j a;");
        for (int way = 0; way < 3; way++) due("way(" + way + ", 0)", x.way(way, 0), 16);
        due("sizes(0, 9)", x.sizes(0, 9), 5);
        due("sizes(0, 9) again", x.sizes(0, 9), STATE);
        due("sizes(0, 1)", x.sizes(0, 1), 9);
        due("sizes(2, 60)", x.sizes(2, 60), 6);
        for (int way = 0; way < 3; way++) due("way(" + way + ", 0)", x.way(way, 0), 66);
        due("count(7)", x.count(7), 3);
        for (int size : new int[] {0, 61, -1, LOWEST, HIGHEST}) due("sizes(0, " + size + ")", x.sizes(0, size), BAD);
        for (int k : new int[] {1, 3, -1, 4, LOWEST, HIGHEST}) due("sizes(" + k + ", 5)", x.sizes(k, 5), BAD);
        due("count(7) behind what was refused", x.count(7), 3);
        due("item(0, 1) behind what was refused", x.item(0, 1), 1);
    }

    private static void pinning() {
        JumpLengths x = told("l a;j a;o1;j a;c a;");
        due("way(0, 1)", x.way(0, 1), 0);
        due("pins(3)", x.pins(3), 1);
        due("pins(1)", x.pins(1), 1);
        for (int way = 0; way < 3; way++) due("way(" + way + ", 1)", x.way(way, 1), 3);
        due("pins(1) no more", x.pins(1), 0);
        for (int way = 0; way < 3; way++) {
            due("way(" + way + ", 1)", x.way(way, 1), 2);
            due("way(" + way + ", 0)", x.way(way, 0), 10);
        }
        due("count(7)", x.count(7), 3);
        for (int k : new int[] {0, 2, 4, 5, -1, LOWEST, HIGHEST}) due("pins(" + k + ")", x.pins(k), BAD);
        due("count(7) behind what was refused", x.count(7), 3);
    }

    private static void islands() {
        JumpLengths x = told("l a;l b;l c;l h;i;o1;i;");
        due("places(1, 7)", x.places(1, 7), 1);
        due("places(1, 7) again", x.places(1, 7), STATE);
        due("places(0, 7)", x.places(0, 7), 2);
        for (int label : new int[] {3, 6, 8, -1, LOWEST, HIGHEST}) {
            due("places(0, " + label + ")", x.places(0, label), BAD);
            due("takes(0, " + label + ")", x.takes(0, label), BAD);
        }
        for (int n : new int[] {2, -1, LOWEST, HIGHEST}) {
            due("places(" + n + ", 0)", x.places(n, 0), BAD);
            due("takes(" + n + ", 0)", x.takes(n, 0), BAD);
        }
        due("takes(1, 0)", x.takes(1, 0), STATE);
        due("count(7)", x.count(7), 2);
        due("places(0, 0)", x.places(0, 0), 3);
        due("places(0, 1)", x.places(0, 1), 4);
        due("places(1, 0)", x.places(1, 0), 5);
        due("places(1, 1)", x.places(1, 1), 6);
        due("places(1, 2)", x.places(1, 2), FULL);
        due("places(1, 1) of six", x.places(1, 1), STATE);
        due("places(1, 3) of six", x.places(1, 3), BAD);
        due("item(4, 1)", x.item(4, 1), 3);
        due("lies(0, 4, 1)", x.lies(0, 4, 1), 15);
        due("way(0, 0)", x.way(0, 0), 31);
        due("takes(0, 7)", x.takes(0, 7), 5);
        due("takes(0, 7) again", x.takes(0, 7), STATE);
        due("item(4, 1)", x.item(4, 1), 2);
        due("way(2, 0)", x.way(2, 0), 26);
        due("places(1, 2)", x.places(1, 2), 6);
        due("count(6)", x.count(6), 6);
        due("count(7)", x.count(7), 8);
    }

    private static void undoing() {
        JumpLengths x = told("o5;l a;j a;i;");
        x.sizes(0, 9);
        x.pins(2);
        x.places(0, 0);
        x.takes(0, 0);
        x.pins(2);
        due("way(0, 0)", x.way(0, 0), 11);
        due("undo a pin no more", x.undo(), 4);
        due("way(0, 0)", x.way(0, 0), 14);
        due("undo a take", x.undo(), 3);
        due("count(6)", x.count(6), 1);
        due("way(0, 0)", x.way(0, 0), 19);
        due("undo a place", x.undo(), 2);
        due("count(6)", x.count(6), 0);
        due("undo a pin", x.undo(), 1);
        due("item(2, 2)", x.item(2, 2), 0);
        due("undo a size", x.undo(), 0);
        due("item(0, 1)", x.item(0, 1), 5);
        due("way(0, 0)", x.way(0, 0), 7);
        due("undo none", x.undo(), STATE);
        for (int size = 10; size < 22; size++) x.sizes(0, size);
        due("count(7) of twelve", x.count(7), 10);
        for (int more = 9; more >= 0; more--) due("undo of ten", x.undo(), more);
        due("the oldest that is known", x.item(0, 1), 11);
        due("undo of those lost", x.undo(), STATE);
    }

    private static void undoingMixed() {
        JumpLengths x = told("o5;l a;j a;i;o6;j a;l b;");
        x.sizes(0, 10);
        x.pins(2);
        x.places(0, 0);
        x.sizes(4, 11);
        x.pins(5);
        x.places(0, 1);
        x.takes(0, 0);
        x.pins(2);
        x.sizes(0, 12);
        x.sizes(4, 13);
        x.takes(0, 1);
        x.pins(5);
        int[] firstSizes = {12, 12, 12, 10, 10, 10, 10, 10, 10, 10};
        int[] secondSizes = {13, 13, 11, 11, 11, 11, 11, 11, 6, 6};
        int[] firstPins = {0, 0, 0, 0, 1, 1, 1, 1, 1, 1};
        int[] secondPins = {1, 1, 1, 1, 1, 1, 1, 0, 0, 0};
        int[] islands = {0, 1, 1, 1, 1, 2, 1, 1, 1, 0};
        // The tenth to be undone is the third that was done: what was done ahead of it stays.
        for (int n = 0; n < 10; n++) {
            due("undo " + n + " of mixed ones", x.undo(), 9 - n);
            due("the first size behind undo " + n, x.item(0, 1), firstSizes[n]);
            due("the second size behind undo " + n, x.item(4, 1), secondSizes[n]);
            due("the first pin behind undo " + n, x.item(2, 2), firstPins[n]);
            due("the second pin behind undo " + n, x.item(5, 2), secondPins[n]);
            due("the islands behind undo " + n, x.item(3, 1), islands[n]);
        }
        due("undo of those lost", x.undo(), STATE);
    }

    private static void threeWays() {
        // Made SHORT it does not REACH for the ALIGN, so it is LONG again, and HELD.
        ways(told("r5;j a;a8;l a;"), "held", 0, 8, 1, 1, 0, 0, 5);
        ways(told("r5;j a;a8;l a;"), "held", 1, 8, 1, 1, 0, 0, 5);
        ways(told("r5;j a;a8;l a;"), "held", 2, 8, 1, 0, 0, 0, 5);
        // The second one becomes LONG in GROWN before the first has moved its LABEL to it.
        JumpLengths x = told("r4;j a;o8;l a;a8;j a;");
        ways(x, "grown wastes", 0, 21, 3, 1, 3, 0, 1153);
        ways(x, "grown wastes", 1, 18, 1, 1, 0, 0, 390);
        ways(x, "grown wastes", 2, 18, 1, 0, 0, 0, 390);
        x = told("r7;j a;a4;o5;l a;");
        ways(x, "shrunk wastes", 0, 9, 0, 0, 0);
        ways(x, "shrunk wastes", 1, 13, 1, 0, 4);
        ways(x, "shrunk wastes", 2, 9, 0, 0, 0);
        x = told("r11;j a;j a;a16;l a;");
        ways(x, "fewest long", 0, 16, 3, 1, 0);
        ways(x, "fewest long", 1, 16, 3, 1, 0);
        ways(x, "fewest long", 2, 16, 1, 0, 0);
        x = told("r9;j b;j b;l b;j a;a16;l a;");
        ways(x, "least number", 0, 16, 4, 1, 0);
        ways(x, "least number", 1, 16, 4, 1, 0);
        ways(x, "least number", 2, 16, 1, 0, 0);
        x = told("r5;j a;j a;a8;o3;l a;");
        ways(x, "both waste", 0, 19, 3, 1, 8);
        ways(x, "both waste", 1, 19, 3, 0, 8);
        ways(x, "both waste", 2, 11, 1, 0, 0);
        x = told("r4;l a;j b;j a;j a;l b;");
        ways(x, "three rounds", 0, 15, 7, 3, 0);
        ways(x, "three rounds", 1, 15, 7, 0, 0);
        x = told("r4;l a;j a;j a;");
        ways(x, "two rounds back", 1, 4, 0, 2, 0);
        x.pins(2);
        ways(x, "one round back, the other is pinned", 1, 7, 2, 1, 0);
        x = told("r5;j a;a8;l a;j a;j a;");
        ways(x, "held for two rounds", 0, 12, 1, 1, 0);
        ways(x, "held for two rounds", 1, 12, 1, 2, 0);
        for (int way : new int[] {-1, 3, LOWEST, HIGHEST}) due("way(" + way + ", 0)", x.way(way, 0), BAD);
        for (int what : new int[] {-1, 6, LOWEST, HIGHEST}) due("way(0, " + what + ")", x.way(0, what), BAD);
    }

    private static void reaches() {
        ways(told("r4;j a;o4;l a;"), "just reaches", 0, 6, 0, 0);
        ways(told("r4;j a;o5;l a;"), "just not", 0, 10, 1, 1);
        ways(told("r4;l a;o3;j a;"), "just reaches back", 0, 5, 0, 0);
        ways(told("r4;l a;o4;j a;"), "just not back", 0, 9, 1, 1);
        ways(told("r4;l a;o3;j a;"), "just reaches back", 1, 5, 0, 1);
        ways(told("r4;l a;o4;j a;"), "just not back", 1, 9, 1, 0);
        JumpLengths x = told("r4;c a;o4;l a;o3;c a;o1;c a;");
        due("calls that reach", x.way(0, 4), 3);
        ways(told("o20;l a;" + "j a;".repeat(10)), "ten jumps", 0, 20 + 20);
        ways(told("r19;l a;" + "j a;".repeat(10)), "nine jumps reach", 0, 20, 0, 0);
        ways(told("r18;l a;" + "j a;".repeat(10)), "nine jumps reach", 0, 23, 512, 1);
    }

    private static void lying() {
        JumpLengths x = told("r4;j a;o8;l a;a8;j a;c a;i;");
        x.places(0, 0);
        int[] at = {0, 5, 13, 13, 16, 21, 23};
        int[] bytes = {5, 8, 0, 3, 5, 2, 5};
        int[] far = {8, 0, 0, 0, -8, -10, 0};
        for (int k = 0; k < at.length; k++) {
            due("lies(0, " + k + ", 0)", x.lies(0, k, 0), at[k]);
            due("lies(0, " + k + ", 1)", x.lies(0, k, 1), bytes[k]);
            due("lies(0, " + k + ", 2)", x.lies(0, k, 2), far[k]);
        }
        for (int way = 1; way < 3; way++) {
            due("lies(" + way + ", 4, 1)", x.lies(way, 4, 1), 2);
            due("lies(" + way + ", 4, 2)", x.lies(way, 4, 2), -5);
            due("lies(" + way + ", 5, 0)", x.lies(way, 5, 0), 18);
        }
        for (int bad : new int[] {-1, 3, LOWEST, HIGHEST}) {
            due("lies(" + bad + ", 0, 0)", x.lies(bad, 0, 0), NO);
            due("lies(0, 0, " + bad + ")", x.lies(0, 0, bad), NO);
        }
        for (int k : new int[] {-1, 7, 32, LOWEST, HIGHEST}) due("lies(0, " + k + ", 0)", x.lies(0, k, 0), NO);
    }

    private static void coding() {
        JumpLengths x = told("r4;j a;o8;l a;a8;j a;");
        code(x, 0, 2, 8, 0, 0, 0, 16, 16, 16, 16, 16, 16, 16, 16, 0, 0, 0, 2, 248, 255, 255, 255);
        code(x, 1, 2, 8, 0, 0, 0, 16, 16, 16, 16, 16, 16, 16, 16, 0, 0, 0, 1, 251);
        code(x, 2, 2, 8, 0, 0, 0, 16, 16, 16, 16, 16, 16, 16, 16, 0, 0, 0, 1, 251);
        x.pins(0);
        x.pins(4);
        code(x, 2, 2, 8, 0, 0, 0, 16, 16, 16, 16, 16, 16, 16, 16, 0, 0, 0, 2, 248, 255, 255, 255);
        x = told("j a;" + "o60;".repeat(5) + "l a;");
        due("the second byte of how far", x.code(0, 2), 1);
        due("the first byte of how far", x.code(0, 1), 300 - 256);
        for (int i : new int[] {-1, 305, LOWEST, HIGHEST}) due("code(0, " + i + ")", x.code(0, i), BAD);
        for (int way : new int[] {-1, 3, LOWEST, HIGHEST}) due("code(" + way + ", 0)", x.code(way, 0), BAD);
    }

    private static void codingIslands() {
        JumpLengths x = told("r7;l a;o9;c a;i;c a;");
        due("calls served by none", x.way(0, 4), 0);
        due("a call served by none", x.code(0, 10), 0);
        x.places(0, 0);
        due("calls served", x.way(0, 4), 3);
        code(x, 0, 16, 16, 16, 16, 16, 16, 16, 16, 16, 3, 0, 4, 240, 255, 255, 255, 3, 249);
        due("all bytes", x.way(0, 5), 144 + 3 + 4 + 240 + 765 + 3 + 249);
        // Both spots serve: the lowest one does. In a spot a's island lies ahead of b's, placed later or not.
        x = told("r20;i;c b;i;o60;l a;l b;");
        x.places(0, 1);
        x.places(0, 0);
        x.places(1, 1);
        due("served", x.way(0, 4), 1);
        code(told("c a;l a;"), 0, 3, 0);
        code(told("l a;c a;"), 2, 3, 254);
        int[] head = {4, 72, 0, 0, 0, 4, 67, 0, 0, 0, 3, 249, 4, 60, 0, 0, 0, 16};
        for (int i = 0; i < head.length; i++) due("code(0, " + i + ") with islands", x.code(0, i), head[i]);
        JumpLengths y = told("i;o1;l b;o1;l h;");
        y.places(0, 1);
        code(y, 0, 4, 1, 0, 0, 0, 16, 16);
        y.places(0, 7);
        code(y, 0, 4, 6, 0, 0, 0, 4, 2, 0, 0, 0, 16, 16);
        x.takes(0, 1);
        due("served by the next spot", x.code(0, 6), 0);
        due("served by the next spot", x.way(0, 4), 1);
        x.takes(1, 1);
        due("served by no island of its label", x.way(0, 4), 0);
        due("served by no island of its label", x.code(0, 6), 0);
        // An island just reaches, or just not: it counts where it begins.
        x = told("r4;i;o2;c a;o60;l a;");
        x.places(0, 0);
        due("an island too far back", x.way(0, 4), 0);
        x = told("r8;i;o2;c a;o60;l a;");
        x.places(0, 0);
        due("an island that just reaches", x.way(0, 4), 1);
    }

    private static void origins() {
        JumpLengths x = told("l a;o2;j a;a8;i;c a;l b;o1;");
        x.places(0, 1);
        x.places(0, 0);
        int[] wants = {1, 1, 2, 2, 3, 3, 3, 3, 4, 4, 4, 4, 4, 4, 4, 4, 4, 4, 5, 5, 7};
        for (int way = 0; way < 3; way++) {
            for (int i = 0; i < wants.length; i++) due("origin(" + way + ", " + i + ")", x.origin(way, i), wants[i]);
            for (int i : new int[] {-1, wants.length, LOWEST, HIGHEST}) due("origin(" + way + ", " + i + ")", x.origin(way, i), BAD);
        }
        for (int way : new int[] {-1, 3, LOWEST, HIGHEST}) due("origin(" + way + ", 0)", x.origin(way, 0), BAD);
    }

    private static void narrowing() {
        JumpLengths x = told("j a;o50;l a;");
        due("narrow()", x.narrow(), 50);
        due("the reach stays", x.count(5), 20);
        due("way(0, 1) stays", x.way(0, 1), 1);
        x.pins(0);
        due("narrow() of a pinned one", x.narrow(), 4);
        due("narrow() back", told("l a;o50;j a;").narrow(), 51);
        due("narrow() of 127", told("j a;o60;o60;o7;l a;").narrow(), 127);
        due("narrow() of 128", told("j a;o60;o60;o8;l a;").narrow(), NONE);
        due("narrow() of 127 back", told("l a;o60;o60;o6;j a;").narrow(), 127);
        due("narrow() of 128 back", told("l a;o60;o60;o7;j a;").narrow(), NONE);
        due("narrow() of 3", told("j a;o3;l a;").narrow(), 4);
        due("narrow() of 5", told("j a;o5;l a;").narrow(), 5);
        due("narrow() of a call", told("c a;o50;l a;").narrow(), 4);
        x = told("j a;i;o10;j a;l a;");
        x.places(0, 0);
        due("narrow() over an island", x.narrow(), 17);
        x.pins(3);
        due("narrow() over a pinned one", x.narrow(), 20);
    }

    private static void fewestIslands() {
        fewest("c a;l a;", 0, 0);
        fewest("r7;l a;o9;c a;i;c a;", 1, 1);
        fewest("r6;i;o9;i;c b;o9;l b;", 1, 512);
        fewest("i;c a;c b;c c;o60;l a;l b;l c;", 3, 7);
        fewest("i;c a;c b;c c;c d;o60;l a;l b;l c;l d;", NONE, NONE);
        fewest("r40;i;c a;c b;c c;c d;o60;l a;l b;l c;l d;", NONE, NONE);
        fewest("c a;o21;l a;", NONE, NONE);
        fewest("r6;i;o9;i;o9;i;c h;o9;l h;", 1, 1 << 23);
        fewest("r6;i;o9;i;c h;o9;l h;", 1, 1 << 15);
        fewest("r5;i;c a;o9;i;c b;o9;i;c h;o9;l a;l b;l h;", NONE, NONE);
        fewest("r7;i;c a;o9;i;c b;o9;i;c h;o9;l a;l b;l h;", 3, 1 | 1 << 9 | 1 << 23);
        // Only labels that are there have islands.
        fewest("r9;i;c b;a16;l b;", 1, 2);
        // Of several spots the lowest; an island of a label that no call goes to moves the call as well.
        fewest("i;i;i;c b;o60;l b;", 1, 2);
        fewest("r9;i;c b;a16;l b;l a;", 1, 1);
        // The island makes the jump LONG, and the call is too far from it then.
        fewest("r8;l a;o3;i;j a;c b;o60;l b;", NONE, NONE);
        fewest("r9;l a;o3;i;j a;c b;o60;l b;", 1, 2);
        JumpLengths x = told("r7;l a;o9;c a;i;c a;");
        x.places(0, 0);
        due("fewest(0) as if none were placed", x.fewest(0), 1);
        due("fewest(1) as if none were placed", x.fewest(1), 1);
        due("the islands stay", x.count(6), 1);
        x.sizes(1, 3);
        due("fewest(0) of what is sized", x.fewest(0), 0);
        for (int what : new int[] {-1, 2, LOWEST, HIGHEST}) due("fewest(" + what + ")", x.fewest(what), BAD);
        x.sizes(1, 60);
        due("fewest(0) of what is sized again", x.fewest(0), 1);
        x = told("c a;i;o9;l a;");
        due("fewest(0)", x.fewest(0), 0);
        x.sizes(2, 60);
        due("fewest(0) of what is sized", x.fewest(0), 1);
        x = told("r9;i;l b;o1;j b;o1;c a;o60;l a;");
        due("fewest(0) over a SHORT jump", x.fewest(0), NONE);
        x = told("r13;i;l b;o1;j b;o1;c a;o60;l a;");
        due("fewest(0) over a SHORT jump", x.fewest(0), 1);
        x.pins(3);
        due("fewest(0) over a pinned jump", x.fewest(0), 1);
        x.sizes(2, 2);
        due("fewest(0) over a pinned jump and more", x.fewest(0), NONE);
    }

    private static void chances() {
        odds("r10;j a;o5;o5;l a;", 0, 3, 51, 100);
        odds("r10;j a;o5;o5;l a;", 0, 5, 3, 4);
        odds("r10;j a;o5;o5;l a;", 0, 0, 0, 1);
        odds("r10;j a;o5;o5;l a;", 0, 10, 1, 1);
        odds("r11;j a;o5;o5;l a;", 0, 3, 9, 100);
        odds("r12;j a;o5;o5;l a;", 0, 7, 0, 1);
        odds("r4;j a;o5;o5;l a;", 0, 7, 1, 1);
        odds("j a;l a;", 0, 4, 0, 1);
        odds("r7;j a;" + "o1;".repeat(7) + "l a;", 0, 5, 63, 64);
        odds("r13;j a;" + "o1;".repeat(7) + "l a;", 0, 10, 0, 1);
        odds("r12;j a;" + "o1;".repeat(7) + "l a;", 0, 1, 1, 1000000);
        odds("r12;j a;" + "o1;".repeat(7) + "l a;", 0, 3, 729, 1000000);
        odds("r60;j a;o60;l a;", 0, 10, 1, 1);
        odds("r9;o1;l a;o8;j a;", 3, 1, 1, 10);
        // Long only if the first is not: one more byte ahead of it leaves less for the ALIGN.
        odds("r13;o1;j a;a16;l a;", 1, 1, 0, 1);
        odds("r12;o1;j a;a16;l a;", 1, 1, 9, 10);
        JumpLengths x = told("r10;j a;o5;o5;l a;c a;");
        due("way(0, 0) behind odds", x.way(0, 0), 14);
        x.pins(0);
        due("odds of a pinned one", x.odds(0, 0, 0), 1);
        due("odds of a pinned one", x.odds(0, 0, 1), 1);
        x.pins(0);
        x.sizes(1, 4);
        due("odds of what is sized", x.odds(0, 3, 0), 9);
        due("the size stays", x.item(1, 1), 4);
        for (int k : new int[] {1, 3, 4, 5, -1, LOWEST, HIGHEST}) due("odds(" + k + ", 1, 0)", x.odds(k, 1, 0), BAD);
        for (int by : new int[] {-1, 11, LOWEST, HIGHEST}) due("odds(0, " + by + ", 0)", x.odds(0, by, 0), BAD);
        for (int what : new int[] {-1, 2, LOWEST, HIGHEST}) due("odds(0, 1, " + what + ")", x.odds(0, 1, what), BAD);
    }

    private static void keepingAndBack() {
        JumpLengths x = told("o5;l a;j a;i;");
        due("back(1) of none", x.back(1), STATE);
        x.sizes(0, 9);
        x.pins(2);
        x.places(0, 0);
        due("keep(1)", x.keep(1), 1);
        due("back(0) of none", x.back(0), STATE);
        x.takes(0, 0);
        x.pins(2);
        x.sizes(0, 2);
        due("keep(0)", x.keep(0), 0);
        type(x, "o1");
        due("way(2, 0)", x.way(2, 0), 4);
        due("back(1)", x.back(1), 1);
        due("way(2, 0)", x.way(2, 0), 19);
        counts(x, "of the image", 4, 1, 0, 1, 1, 20, 1, 3, 2);
        due("item(0, 1)", x.item(0, 1), 9);
        due("item(2, 2)", x.item(2, 2), 1);
        due("undo behind back", x.undo(), 2);
        due("islands behind undo", x.count(6), 0);
        due("undo behind back", x.undo(), 1);
        due("undo behind back", x.undo(), 0);
        due("the size ahead of all", x.item(0, 1), 5);
        due("back(1) again", x.back(1), 1);
        due("how many may be undone again", x.count(7), 3);
        due("back(0)", x.back(0), 0);
        due("how many may be undone", x.count(7), 6);
        due("undo of the other", x.undo(), 5);
        due("the size of the other", x.item(0, 1), 9);
        due("way(0, 0) of the other", x.way(0, 0), 11);
        x.sizes(0, 33);
        due("keep(1) over the old one", x.keep(1), 0);
        x.sizes(0, 34);
        due("back(1)", x.back(1), 0);
        due("the size of the new one", x.item(0, 1), 33);
        due("way(0, 0)", x.way(0, 0), 35);
        due("back(0)", x.back(0), 0);
        due("way(0, 0)", x.way(0, 0), 4);
        for (int image : new int[] {-1, 2, LOWEST, HIGHEST}) {
            due("keep(" + image + ")", x.keep(image), BAD);
            due("back(" + image + ")", x.back(image), BAD);
        }
    }

    /** What an image has to be UNDONE stays its own, whatever is done behind it. */
    private static void pastsOfImages() {
        JumpLengths x = told("o5;l a;j a;i;o6;j a;");
        x.sizes(4, 7);
        x.sizes(4, 8);
        x.keep(0);
        x.undo();
        x.undo();
        x.pins(2);
        x.places(0, 0);
        x.keep(1);
        x.undo();
        x.sizes(0, 50);
        x.back(0);
        due("undo of the first image", x.undo(), 1);
        due("its size", x.item(4, 1), 7);
        due("undo of the first image", x.undo(), 0);
        due("its size", x.item(4, 1), 6);
        x.back(1);
        due("undo of the second image", x.undo(), 1);
        due("its islands", x.count(6), 0);
        due("its pin", x.item(2, 2), 1);
        due("undo of the second image", x.undo(), 0);
        due("its pin", x.item(2, 2), 0);
        due("its size", x.item(0, 1), 5);
    }

    private static void constants() {
        due("BAD", JumpLengths.BAD, BAD);
        due("STATE", JumpLengths.STATE, STATE);
        due("FULL", JumpLengths.FULL, FULL);
        due("NONE", JumpLengths.NONE, NONE);
        due("NO", JumpLengths.NO, NO);
    }

    public static void main(String[] args) throws IllegalAccessException {
        runAll(PromisesTest.class);
    }
}
