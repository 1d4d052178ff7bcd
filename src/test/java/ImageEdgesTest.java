/** The edges of promises 18 to 20: images and counts. */
public final class ImageEdgesTest extends Checks {
    private static final int[] NO_IMAGES = {-1, 2, 3, LOWEST, HIGHEST};

    public static void main(String[] args) throws IllegalAccessException {
        runAll(ImageEdgesTest.class);
    }

    // ---- promise 18

    private static void imagesAre0And1() {
        says("Promise 18", "An IMAGE is kept: how many ISLANDS. BAD.");
        JumpLengths x = told("o5;l a;j a;i;");
        for (int image : NO_IMAGES) due("keep(" + image + ")", x.keep(image), BAD);
        due("back(0) behind what was refused", x.back(0), STATE);
        due("back(1) behind what was refused", x.back(1), STATE);
        due("keep(0)", x.keep(0), 0);
        due("back(1) behind keep(0)", x.back(1), STATE);
        x.places(0, 0);
        due("keep(1)", x.keep(1), 1);
        due("back(0)", x.back(0), 0);
        due("back(1)", x.back(1), 1);
    }

    private static void anImageOfNothing() {
        says("Promise 18", "An IMAGE is kept: how many ISLANDS. BAD.");
        JumpLengths x = new JumpLengths();
        due("keep(0) of a new object", x.keep(0), 0);
        due("keep(1) of a new object", x.keep(1), 0);
        due("back(0) of a new object", x.back(0), 0);
        due("back(1) of a new object", x.back(1), 0);
        counts(x, "behind them", 0, 0, 0, 0, 0, 20, 0, 0, 0);
    }

    private static void anImageOfSixIslandsAndTenDeeds() {
        says("Terms", "IMAGES 0, 1 keep NOW (SIZES, who is PINNED, ISLANDS, what may be UNDONE); nothing else.");
        JumpLengths x = told("o60;l a;j a;i;l b;i;l h;i;");
        for (int n = 0; n < 3; n++) {
            x.places(n, 0);
            x.places(n, 7);
        }
        x.pins(2);
        for (int size = 1; size <= 5; size++) x.sizes(0, size);
        due("keep(1)", x.keep(1), 6);
        for (int n = 0; n < 10; n++) x.undo();
        due("islands with ten undone", x.count(6), 2);
        x.takes(0, 0);
        due("keep(0)", x.keep(0), 1);
        due("back(1)", x.back(1), 6);
        counts(x, "of the image", 8, 1, 0, 3, 1, 20, 6, 10, 0);
        due("the size", x.item(0, 1), 5);
        due("whether it is pinned", x.item(2, 2), 1);
        due("places of a seventh", x.places(0, 1), FULL);
        for (int n = 9; n >= 0; n--) due("undo of the image", x.undo(), n);
        due("undo of those lost", x.undo(), STATE);
        due("back(0)", x.back(0), 1);
        due("count(7) of the other", x.count(7), 1);
        due("undo of the other", x.undo(), 0);
        due("islands of the other, undone", x.count(6), 2);
    }

    private static void whatAnImageHasToBeUndoneIsItsOwn() {
        says("Terms", "IMAGES 0, 1 keep NOW (SIZES, who is PINNED, ISLANDS, what may be UNDONE); nothing else.");
        JumpLengths x = told("l a;j a;o5;o6;i;j a;");
        for (int n = 0; n < 5; n++) {
            x.sizes(3, 10 + n);
            x.pins(5);
        }
        x.keep(0);
        for (int n = 0; n < 5; n++) {
            x.pins(1);
            x.sizes(2, 20 + n);
        }
        x.keep(1);
        for (int n = 0; n < 5; n++) {
            x.places(0, 0);
            x.takes(0, 0);
        }
        x.back(0);
        for (int n = 4; n >= 0; n--) {
            due("undo of a pin", x.undo(), 2 * n + 1);
            due("whether it is pinned", x.item(5, 2), n % 2);
            due("undo of a size", x.undo(), 2 * n);
            due("the size", x.item(3, 1), n == 0 ? 6 : 9 + n);
        }
        x.back(1);
        for (int n = 4; n >= 0; n--) {
            due("undo of a size", x.undo(), 2 * n + 1);
            due("the size", x.item(2, 1), n == 0 ? 5 : 19 + n);
            due("undo of a pin", x.undo(), 2 * n);
            due("whether it is pinned", x.item(1, 2), n % 2);
        }
        due("undo of those lost", x.undo(), STATE);
        due("the size of those lost", x.item(3, 1), 14);
    }

    private static void anImageKeepsNothingElse() {
        says("Terms", "IMAGES 0, 1 keep NOW (SIZES, who is PINNED, ISLANDS, what may be UNDONE); nothing else.");
        JumpLengths x = told("o5;l a;");
        type(x, "o1;");
        x.keep(0);
        type(x, "o2");
        due("back(0)", x.back(0), 0);
        due("count(8), bytes of the text", x.count(8), 5);
        x.sizes(0, 6);
        x.keep(1);
        x.sizes(0, 7);
        due("back(0)", x.back(0), 0);
        // The one IMAGE is not of the other.
        due("back(1)", x.back(1), 0);
        due("the size of the other image", x.item(0, 1), 6);
        x.clear();
        due("back(1)", x.back(1), 0);
        due("count(8) behind clear", x.count(8), 0);
    }

    private static void anImageIsKeptAnew() {
        says("Promise 18", "An IMAGE is kept: how many ISLANDS. BAD.");
        JumpLengths x = told("o5;l a;");
        for (int size = 6; size <= 20; size++) {
            x.sizes(0, size);
            x.keep(size % 2);
        }
        x.sizes(0, 60);
        x.back(0);
        due("the latest of image 0", x.item(0, 1), 20);
        x.back(1);
        due("the latest of image 1", x.item(0, 1), 19);
    }

    // ---- promise 19

    private static void backOfNoImage() {
        says("Promise 19", "BAD; STATE: none was kept.");
        JumpLengths x = told("o5;l a;j a;i;");
        x.pins(2);
        for (int image : NO_IMAGES) due("back(" + image + ")", x.back(image), BAD);
        due("back(0)", x.back(0), STATE);
        due("back(1)", x.back(1), STATE);
        due("whether it is pinned", x.item(2, 2), 1);
        due("count(7)", x.count(7), 1);
        x.keep(1);
        x.pins(2);
        for (int image : NO_IMAGES) due("back(" + image + ") behind keep", x.back(image), BAD);
        due("back(0) behind keep(1)", x.back(0), STATE);
        due("whether it is pinned", x.item(2, 2), 0);
        due("back(1)", x.back(1), 0);
        due("whether it is pinned", x.item(2, 2), 1);
    }

    private static void backMayBeHadAgain() {
        says("Promise 19", "All of that becomes as an IMAGE has it: how many ISLANDS.");
        JumpLengths x = told("o5;l a;i;");
        x.sizes(0, 6);
        x.places(0, 0);
        x.keep(0);
        for (int time = 0; time < 3; time++) {
            x.undo();
            x.undo();
            due("undo of none", x.undo(), STATE);
            due("back(0)", x.back(0), 1);
            due("the size", x.item(0, 1), 6);
            due("count(7)", x.count(7), 2);
            for (int way : WAYS) due("way(" + way + ", 0)", x.way(way, 0), 11);
        }
    }

    private static void imagesAreGoneReadAnew() {
        says("Terms", "(Read anew: as told, nothing to be UNDONE, IMAGES are gone.)");
        JumpLengths x = told("o5;l a;");
        x.keep(0);
        x.keep(1);
        type(x, "o5;?");
        due("a fault", x.source(), -10 - 3);
        due("back(0) behind a fault", x.back(0), 0);
        due("back(1) behind a fault", x.back(1), 0);
        x.clear();
        type(x, "o5;l a;");
        due("the same source anew", x.source(), 2);
        due("back(0)", x.back(0), STATE);
        due("back(1)", x.back(1), STATE);
        x.keep(0);
        due("back(0) kept anew", x.back(0), 0);
        due("back(1) not kept anew", x.back(1), STATE);
    }

    // ---- promise 20

    private static void countsAre0To8() {
        says("Promise 20", "0 ITEMS, 1 JUMPS, 2 CALLS, 3 SPOTS, 4 OPS, 5 REACH, 6 ISLANDS, 7 how many may be UNDONE, 8 bytes of THE TEXT. BAD.");
        JumpLengths x = told("r33;l a;j a;j a;c a;c a;c a;i;i;o1;o1;o1;o1;a2;");
        x.places(1, 0);
        x.pins(1);
        type(x, "xyz");
        counts(x, "of all", 13, 2, 3, 2, 4, 33, 1, 2, 3);
        for (int what : new int[] {-1, 9, 10, LOWEST, HIGHEST}) {
            due("count(" + what + ")", x.count(what), BAD);
            due("count(" + what + ") of a new object", new JumpLengths().count(what), BAD);
        }
    }

    private static void theGreatestCounts() {
        says("Promise 20", "0 ITEMS, 1 JUMPS, 2 CALLS, 3 SPOTS, 4 OPS, 5 REACH");
        String text = "r127;l a;l b;" + "j a;".repeat(10) + "c a;".repeat(6) + "i;i;i;" + "o1;".repeat(11);
        JumpLengths x = told(text);
        for (int n = 0; n < 3; n++) {
            x.places(n, 0);
            x.places(n, 1);
        }
        for (int size = 2; size <= 13; size++) x.sizes(31, size);
        type(x, " ".repeat(151));
        counts(x, "of all that may be", 32, 10, 6, 3, 11, 127, 6, 10, 150);
        due("32 ops", told("o1;".repeat(32)).count(4), 32);
    }
}
