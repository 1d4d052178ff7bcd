/** The edges of promises 11 to 17 and of parts 2 and 3 of the terms: layouts, code, searches, odds. */
public final class LengthEdgesTest extends Checks {
    private static final int[] REACHES = {4, 5, 19, 20, 21, 59, 126, 127};
    private static final int[] WRONG_BITS = {-1, 2, LOWEST, HIGHEST};

    public static void main(String[] args) throws IllegalAccessException {
        runAll(LengthEdgesTest.class);
    }

    private static void longs(String text, int want) {
        JumpLengths x = told(text);
        for (int way : WAYS) due("way(" + way + ", 1) of '" + text + "'", x.way(way, 1), want);
    }

    private static void served(JumpLengths x, String text, int want) {
        for (int way : WAYS) due("way(" + way + ", 4) of '" + text + "'", x.way(way, 4), want);
    }

    private static void servedByAnIsland(String text, int want) {
        JumpLengths x = told(text);
        served(x, text + " without an island", 0);
        x.places(0, 0);
        served(x, text, want);
    }

    // ---- part 2 of the terms

    private static void jumpsThatJustReach() {
        says("Terms", "It REACHES, if that is -REACH less 1 .. REACH.");
        for (int reach : REACHES) {
            String head = "r" + reach + ";";
            longs(head + "j a;l a;", 0);
            longs(head + "l a;j a;", 0);
            longs(head + "j a;" + ops(reach) + "l a;", 0);
            longs(head + "j a;" + ops(reach + 1) + "l a;", 1);
            longs(head + "l a;" + ops(reach - 1) + "j a;", 0);
            longs(head + "l a;" + ops(reach) + "j a;", 1);
        }
    }

    private static void callsThatJustReach() {
        says("Terms", "A CALL is SERVED, if it REACHES");
        for (int reach : REACHES) {
            String head = "r" + reach + ";";
            String[] near = {"c a;" + ops(reach) + "l a;", "l a;" + ops(reach - 1) + "c a;", "c a;l a;", "l a;c a;"};
            String[] far = {"c a;" + ops(reach + 1) + "l a;", "l a;" + ops(reach) + "c a;"};
            for (String text : near) served(told(head + text), head + text, 1);
            for (String text : far) served(told(head + text), head + text, 0);
        }
    }

    private static void islandsThatJustServe() {
        says("Terms", "or an ISLAND of its LABEL does it (how far to where that begins)");
        for (int reach : REACHES) {
            String head = "r" + reach + ";l a;" + ops(reach + 1) + "c a;";
            servedByAnIsland(head + "i;", 1);
            servedByAnIsland(head + ops(reach) + "i;", 1);
            servedByAnIsland(head + ops(reach + 1) + "i;", 0);
            if (reach < 7) continue;
            // Back it is 5 of the island and 2 of the call farther.
            String tail = "c a;" + ops(reach + 1) + "l a;";
            servedByAnIsland("r" + reach + ";i;" + ops(reach - 6) + tail, 1);
            servedByAnIsland("r" + reach + ";i;" + ops(reach - 5) + tail, 0);
        }
    }

    private static void alignsOf0OrMore() {
        says("Terms", "an ALIGN of as many (0 or more) as it takes so that what is behind it lies at a multiple of it");
        for (int to = 2; to <= 16; to *= 2) {
            for (int at = 0; at <= 33; at++) {
                JumpLengths x = told(ops(at) + "a" + to + ";o1;");
                int k = at == 0 ? 0 : 1;
                int bytes = 0;
                while ((at + bytes) % to != 0) bytes++;
                for (int way : WAYS) {
                    due("bytes of a" + to + " at " + at, x.lies(way, k, 1), bytes);
                    due("what is behind a" + to + " at " + at, x.lies(way, k + 1, 0), at + bytes);
                }
            }
        }
    }

    private static void anAlignAtTheEnd() {
        says("Terms", "an ALIGN of as many (0 or more) as it takes");
        for (int way : WAYS) {
            due("the size, with nothing behind it", told("o1;a16;").way(way, 0), 16);
            due("the size of an ALIGN alone", told("a16;").way(way, 0), 0);
            due("the size of ALIGNS alone", told("a2;a4;a8;a16;").way(way, 0), 0);
            due("the size of two", told("o1;a2;a16;").way(way, 0), 16);
            due("the size of two", told("o1;a16;a2;").way(way, 0), 16);
        }
    }

    private static void noJumpsNoRounds() {
        says("Promise 11", "2 ROUNDS (0 of LEAST), 3 WASTE");
        for (int way : WAYS) {
            ways(told("o60;l a;a16;i;c a;"), "no jumps", way, 66, 0, 0, 0, 1);
            ways(told("o60;l a;a16;i;"), "no jumps nor calls", way, 64, 0, 0, 0, 0, 960);
            ways(told("l a;a16;i;"), "no bytes", way, 0, 0, 0, 0, 0, 0);
        }
    }

    private static void roundsOfGrown() {
        says("Terms", "until there is none.");
        due("all are short", told("j a;l a;").way(0, 2), 0);
        due("one is long", told("j a;o21;l a;").way(0, 2), 1);
        JumpLengths x = told("r4;l a;j b;j a;j a;l b;");
        due("one round behind the other", x.way(0, 2), 3);
        // Those PINNED are LONG first, by no round.
        x.pins(1);
        x.pins(2);
        x.pins(3);
        due("all are pinned", x.way(0, 2), 0);
    }

    private static void tenRounds() {
        says("Terms", "ROUNDS of GROWN, of SHRUNK: how many made one LONG, SHORT.");
        // Each round of these makes just one LONG, or SHORT, by which the next no more, or only then, reaches.
        String growing = "r13;o3;l f;o6;o7;l d;j h;o5;o4;j d;j c;l h;j a;j e;o1;j b;l c;j g;j h;l e;j h;j h;l b;l g;l a;";
        ways(told(growing), growing, 0, 76, 1023, 10, 0);
        ways(told(growing), growing, 1, 76, 1023, 0, 0);
        ways(told(growing), growing, 2, 76, 1023, 0, 0);
        String shrinking = "r11;j e;o7;j f;l e;j a;j a;o2;o3;l g;l f;l d;j a;l b;j c;l a;o1;j f;j h;j a;j a;l c;o5;l h;o2;";
        ways(told(shrinking), shrinking, 0, 40, 0, 0, 0);
        ways(told(shrinking), shrinking, 1, 40, 0, 10, 0);
        ways(told(shrinking), shrinking, 2, 40, 0, 0, 0);
    }

    private static void backIs3LessFarInShrunk() {
        says("Terms", "by how far they go as all lies (to LABELS ahead of them 3 less far back)");
        for (int reach : REACHES) {
            String head = "r" + reach + ";";
            due("just short, back", told(head + "l a;" + ops(reach - 1) + "j a;").way(1, 2), 1);
            due("just long, back", told(head + "l a;" + ops(reach) + "j a;").way(1, 2), 0);
            // To LABELS behind them it is not less: what it is when all are long counts.
            due("just short", told(head + "j a;" + ops(reach) + "l a;").way(1, 2), 1);
            due("just long", told(head + "j a;" + ops(reach + 1) + "l a;").way(1, 2), 0);
        }
    }

    private static void shrunkLooksAtHowAllLies() {
        says("Terms", "by how far they go as all lies");
        // LONG it ends at 5, and the ALIGN has 3; SHORT the ALIGN would have 2.
        JumpLengths x = told("r7;j a;a4;o5;l a;");
        ways(x, "as all lies it goes 8", 1, 13, 1, 0, 4);
        x = told("r8;j a;a4;o5;l a;");
        ways(x, "as all lies it goes 8", 1, 9, 0, 1, 0);
    }

    private static void heldStaysLong() {
        says("Terms", "all SHORT that do not REACH become LONG, together, and HELD; until a round makes none SHORT.");
        // LONG it goes 3 and reaches, SHORT it goes 6 and does not.
        ways(told("r5;j a;a8;l a;"), "held", 1, 8, 1, 1, 0);
        ways(told("r6;j a;a8;l a;"), "just not held", 1, 8, 0, 1, 0);
        ways(told("r5;j a;a8;l a;j a;j a;"), "held while others shrink", 1, 12, 1, 2, 0);
    }

    private static void theLeastOfSeveral() {
        says("Terms", "the GOOD LAYOUT of the least size, of several that of fewest LONG");
        ways(told("r11;j a;j a;a16;l a;"), "fewest long", 2, 16, 1, 0, 0);
        says("Terms", "of several that whose LONG ones (JUMPS by their numbers among JUMPS, as bits) are the least number");
        ways(told("r9;j b;j b;l b;j a;a16;l a;"), "least number", 2, 16, 1, 0, 0);
        JumpLengths x = told("r11;j a;j a;a16;l a;");
        x.pins(0);
        ways(x, "the first is pinned", 2, 16, 1, 0, 0);
        x.pins(0);
        // The first is too far then, so it is no GOOD LAYOUT that has the second alone.
        x.pins(1);
        ways(x, "the second is pinned", 2, 16, 3, 0, 0);
    }

    // ---- promise 11

    private static void waysAre0To2() {
        says("Promise 11", "Of a way: 0 the size of all");
        JumpLengths x = told("o5;l a;j a;c a;");
        for (int way : NO_WAYS) {
            for (int what = -1; what < 7; what++) due("way(" + way + ", " + what + ")", x.way(way, what), BAD);
        }
        for (int way : WAYS) {
            due("way(" + way + ", 0)", x.way(way, 0), 9);
            for (int what : new int[] {-1, 6, LOWEST, HIGHEST}) due("way(" + way + ", " + what + ")", x.way(way, what), BAD);
        }
    }

    private static void theGreatestSize() {
        says("Promise 11", "0 the size of all");
        JumpLengths x = told("o60;".repeat(32));
        for (int way : WAYS) {
            ways(x, "32 of 60", way, 1920, 0, 0, 0, 0, 1920 * 16);
            due("the last byte", x.code(way, 1919), 16);
            due("of which it is", x.origin(way, 1919), 31);
            due("behind the last byte", x.code(way, 1920), BAD);
            due("behind the last byte", x.origin(way, 1920), BAD);
        }
    }

    private static void allJumpsAndCallsAsBits() {
        says("Promise 11", "1 JUMPS that are LONG (bits among JUMPS)");
        JumpLengths x = told("r4;l a;o60;" + "j a;".repeat(10));
        for (int way : WAYS) ways(x, "ten long ones", way, 110, 1023);
        says("Promise 11", "4 CALLS that are SERVED (bits among CALLS)");
        served(told("l a;" + "c a;".repeat(6)), "six near ones", 63);
        served(told("l a;o60;" + "c a;".repeat(6)), "six far ones", 0);
        served(told("r4;l a;" + "c a;".repeat(6)), "two near ones", 3);
        served(told("r4;" + "c a;".repeat(6) + "l a;"), "three near ones", 56);
    }

    // ---- promise 12

    private static void itemsThatLie() {
        says("Promise 12", "Of an ITEM in a way: 0 where it lies, 1 how many bytes it has");
        JumpLengths x = told("l a;o5;i;j a;c a;a8;l b;");
        int[] at = {0, 0, 5, 5, 7, 9, 16};
        int[] bytes = {0, 5, 0, 2, 2, 7, 0};
        int[] far = {0, 0, 0, -7, -9, 0, 0};
        for (int way : WAYS) {
            for (int k = 0; k < at.length; k++) {
                due("lies(" + way + ", " + k + ", 0)", x.lies(way, k, 0), at[k]);
                due("lies(" + way + ", " + k + ", 1)", x.lies(way, k, 1), bytes[k]);
                due("lies(" + way + ", " + k + ", 2)", x.lies(way, k, 2), far[k]);
            }
        }
    }

    private static void whatDoesNotLieIsNo() {
        says("Promise 12", "NO: BAD.");
        JumpLengths x = told("l a;o5;i;j a;c a;a8;l b;");
        for (int way : WAYS) {
            for (int k : new int[] {-1, 7, 31, 32, 33, LOWEST, HIGHEST}) {
                for (int what = 0; what < 3; what++) due("lies(" + way + ", " + k + ", " + what + ")", x.lies(way, k, what), NO);
            }
            for (int what : new int[] {-1, 3, LOWEST, HIGHEST}) due("lies(" + way + ", 3, " + what + ")", x.lies(way, 3, what), NO);
        }
        for (int way : NO_WAYS) {
            for (int what = 0; what < 3; what++) due("lies(" + way + ", 3, " + what + ")", x.lies(way, 3, what), NO);
        }
        due("lies(0, 31, 0) of 32", told("o1;".repeat(32)).lies(0, 31, 0), 31);
        due("lies(0, 32, 0) of 32", told("o1;".repeat(32)).lies(0, 32, 0), NO);
    }

    private static void howFarIs0OrBelow() {
        says("Promise 12", "2 how far it goes (0: it is no JUMP, no CALL)");
        JumpLengths x = told("j a;l a;j a;c a;c b;l b;");
        int[] far = {0, 0, -2, -4, 0, 0};
        for (int way : WAYS) {
            for (int k = 0; k < far.length; k++) due("lies(" + way + ", " + k + ", 2)", x.lies(way, k, 2), far[k]);
        }
        // A LONG one's own end is 3 farther on: as far as it can be, it is still no NO.
        x = told("l a;" + "o60;".repeat(30) + "j a;");
        for (int way : WAYS) due("the farthest back", x.lies(way, 31, 2), -1805);
        x = told("j a;" + "o60;".repeat(30) + "l a;");
        for (int way : WAYS) due("the farthest", x.lies(way, 0, 2), 1800);
    }

    // ---- promise 13

    private static void bytesFrom0ToTheSize() {
        says("Promise 13", "Byte i of CODE of a way (0 .. 255). BAD: also beyond its size.");
        JumpLengths x = told("r4;j a;o8;l a;a8;j a;");
        int[] sizes = {21, 18, 18};
        for (int way : WAYS) {
            due("code(" + way + ", 0)", x.code(way, 0), 2);
            due("the last byte", x.code(way, sizes[way] - 1), way == 0 ? 255 : 251);
            for (int i : new int[] {-1, sizes[way], sizes[way] + 1, LOWEST, HIGHEST}) due("code(" + way + ", " + i + ")", x.code(way, i), BAD);
        }
        for (int way : NO_WAYS) due("code(" + way + ", 0)", x.code(way, 0), BAD);
        due("code(0, 0) of no bytes", told("l a;i;a2;").code(0, 0), BAD);
    }

    private static void shortJumpsAsBytes() {
        says("Terms", "of a SHORT JUMP: 1, how far (as a byte)");
        code(told("j a;l a;"), 0, 1, 0);
        code(told("l a;j a;"), 0, 1, 254);
        for (int way : WAYS) {
            codeFrom(told("r127;j a;" + ops(127) + "l a;"), way, 0, 1, 127);
            codeFrom(told("r127;l a;" + ops(126) + "j a;"), way, 126, 1, 128, BAD);
        }
    }

    private static void longJumpsAsBytes() {
        says("Terms", "of a LONG one: 2, how far in 4 bytes, the lowest first");
        for (int way : WAYS) {
            codeFrom(told("r127;j a;" + ops(128) + "l a;"), way, 0, 2, 128, 0, 0, 0, 16);
            codeFrom(told("r127;l a;" + ops(127) + "j a;"), way, 127, 2, 124, 255, 255, 255, BAD);
            codeFrom(told("j a;" + ops(255) + "l a;"), way, 0, 2, 255, 0, 0, 0);
            codeFrom(told("j a;" + ops(256) + "l a;"), way, 0, 2, 0, 1, 0, 0);
            codeFrom(told("l a;" + ops(251) + "j a;"), way, 251, 2, 0, 255, 255, 255);
            codeFrom(told("l a;" + ops(252) + "j a;"), way, 252, 2, 255, 254, 255, 255);
            codeFrom(told("l a;" + "o60;".repeat(30) + "j a;"), way, 1800, 2, 243, 248, 255, 255, BAD);
        }
        JumpLengths x = told("j a;l a;j a;");
        x.pins(0);
        x.pins(2);
        for (int way : WAYS) code(x, way, 2, 0, 0, 0, 0, 2, 251, 255, 255, 255);
    }

    private static void callsAsBytes() {
        says("Terms", "of a CALL: 3, how far (as a byte) to its LABEL, if it REACHES");
        for (int way : WAYS) {
            codeFrom(told("r127;c a;" + ops(127) + "l a;"), way, 0, 3, 127);
            codeFrom(told("r127;l a;" + ops(126) + "c a;"), way, 126, 3, 128, BAD);
        }
        says("Terms", "0 if none does");
        for (int way : WAYS) {
            codeFrom(told("r127;c a;" + ops(128) + "l a;"), way, 0, 3, 0);
            codeFrom(told("r127;l a;" + ops(127) + "c a;"), way, 127, 3, 0, BAD);
        }
    }

    private static void callsOverIslandsAsBytes() {
        says("Terms", "else to the ISLAND that serves it (of several the lowest SPOT's)");
        JumpLengths x = told("r127;i;" + ops(121) + "c a;i;" + ops(128) + "l a;");
        x.places(1, 0);
        codeFrom(x, 0, 121, 3, 0, 4);
        // The first spot's is just near enough; then, with one more byte between, it is not.
        x.places(0, 0);
        codeFrom(x, 0, 126, 3, 128, 4);
        x.sizes(3, 2);
        codeFrom(x, 0, 127, 3, 0, 4);
        x.takes(1, 0);
        codeFrom(x, 0, 127, 3, 0, 16);
        served(x, "the first spot's alone", 0);
        // It reaches its LABEL: the island is not looked at.
        x = told("i;c a;l a;");
        x.places(0, 0);
        codeFrom(x, 0, 5, 3, 0, BAD);
    }

    private static void islandsAsBytes() {
        says("Terms", "of an ISLAND: 4, how far from its end to its LABEL in 4 bytes, the lowest first");
        JumpLengths x = told("l h;i;l a;");
        x.places(0, 0);
        code(x, 0, 4, 0, 0, 0, 0);
        says("Terms", "in a SPOT they lie by LABELS");
        x.places(0, 7);
        code(x, 0, 4, 5, 0, 0, 0, 4, 246, 255, 255, 255);
        x.takes(0, 0);
        code(x, 0, 4, 251, 255, 255, 255);
        x.places(0, 0);
        code(x, 0, 4, 5, 0, 0, 0, 4, 246, 255, 255, 255);
        x = told("i;" + ops(256) + "l a;");
        x.places(0, 0);
        codeFrom(x, 0, 0, 4, 0, 1, 0, 0, 16);
        x = told("l a;" + ops(252) + "i;");
        x.places(0, 0);
        codeFrom(x, 0, 252, 4, 255, 254, 255, 255, BAD);
    }

    private static void sixIslandsInASpotAsBytes() {
        says("Terms", "a SPOT of 5 for each ISLAND that is placed there");
        JumpLengths x = told("i;l h;l g;l f;l e;l d;l c;");
        for (int label = 7; label >= 2; label--) x.places(0, label);
        for (int n = 0; n < 6; n++) codeFrom(x, 0, 5 * n, 4, 25 - 5 * n, 0, 0, 0);
        due("lies(0, 0, 1)", x.lies(0, 0, 1), 30);
        due("code(0, 30)", x.code(0, 30), BAD);
    }

    // ---- promise 14

    private static void originsFrom0ToTheSize() {
        says("Promise 14", "Of which ITEM byte i of CODE of a way is. BAD.");
        JumpLengths x = told("r4;j a;o8;l a;a8;j a;");
        int[] sizes = {21, 18, 18};
        for (int way : WAYS) {
            int[] firsts = {0, 5, 13, 16}, lasts = {4, 12, 15, sizes[way] - 1}, items = {0, 1, 3, 4};
            for (int n = 0; n < items.length; n++) {
                due("origin(" + way + ", " + firsts[n] + ")", x.origin(way, firsts[n]), items[n]);
                due("origin(" + way + ", " + lasts[n] + ")", x.origin(way, lasts[n]), items[n]);
            }
            for (int i : new int[] {-1, sizes[way], sizes[way] + 1, LOWEST, HIGHEST}) due("origin(" + way + ", " + i + ")", x.origin(way, i), BAD);
        }
        for (int way : NO_WAYS) due("origin(" + way + ", 0)", x.origin(way, 0), BAD);
    }

    private static void itemsOfNoBytesAreOfNone() {
        says("Promise 14", "Of which ITEM byte i of CODE of a way is. BAD.");
        JumpLengths x = told("l a;a2;i;o1;l b;i;o1;a2;i;l c;");
        due("the first byte", x.origin(0, 0), 3);
        due("the second byte", x.origin(0, 1), 6);
        due("the third byte", x.origin(0, 2), BAD);
        x.places(1, 0);
        for (int i = 0; i < 8; i++) due("origin(0, " + i + ")", x.origin(0, i), i == 0 ? 3 : i < 6 ? 5 : i == 6 ? 6 : 7);
        due("origin(0, 8)", x.origin(0, 8), BAD);
    }

    // ---- promise 15

    private static void narrowIs4To127() {
        says("Terms", "NARROW: the least REACH (4 .. 127) by which no JUMP that is not PINNED is LONG in GROWN; NONE.");
        for (int far = 0; far <= 130; far++) {
            int want = far > 127 ? NONE : Math.max(far, 4);
            due("narrow of " + far, told("j a;" + ops(far) + "l a;").narrow(), want);
            due("narrow of a reach of 127 told", told("r127;j a;" + ops(far) + "l a;").narrow(), want);
            if (far >= 1) due("narrow of " + far + " back", told("l a;" + ops(far - 1) + "j a;").narrow(), want);
        }
    }

    private static void narrowWithoutJumps() {
        says("Promise 15", "NARROW; NONE.");
        due("narrow of nothing", told("").narrow(), 4);
        due("narrow of a call", told("c a;" + ops(200) + "l a;").narrow(), 4);
        JumpLengths x = told("j a;" + ops(200) + "l a;j a;");
        due("narrow of one too far", x.narrow(), NONE);
        x.pins(0);
        due("narrow of it pinned", x.narrow(), 4);
        x.pins(6);
        due("narrow of all pinned", x.narrow(), 4);
        x.pins(0);
        due("narrow of it pinned no more", x.narrow(), NONE);
        due("count(5) behind narrow", x.count(5), 20);
    }

    // ---- promise 16

    private static void fewestFrom0To3() {
        says("Terms", "how many (0 .. 3)");
        fewest("", 0, 0);
        fewest("i;i;i;l a;", 0, 0);
        fewest("i;c a;l a;", 0, 0);
        fewest("i;c a;o60;l a;", 1, 1);
        fewest("i;c a;c b;o60;l a;l b;", 2, 3);
        fewest("i;c a;c b;c c;o60;l a;l b;l c;", 3, 7);
        says("Terms", "NONE (by three none)");
        fewest("r40;i;c a;c b;c c;c d;o60;l a;l b;l c;l d;", NONE, NONE);
        fewest("c a;o60;l a;", NONE, NONE);
        fewest("i;o60;c a;o60;l a;", NONE, NONE);
        // The island itself, 5 bytes, puts the call too far behind where it begins.
        fewest("r5;i;o9;i;o9;i;c h;o60;l h;", NONE, NONE);
        fewest("r6;i;o9;i;o9;i;c h;o60;l h;", 1, 1 << 23);
    }

    private static void fewestAsBits() {
        says("Terms", "which, as bits by 8 times the SPOT and LABEL (a: 0), of several the least number");
        fewest("i;i;i;c a;o60;l a;", 1, 1);
        fewest("i;i;i;c h;o60;l h;", 1, 1 << 7);
        fewest("r6;i;o9;i;i;c a;o60;l a;", 1, 1 << 8);
        fewest("r6;i;o9;i;o9;i;c h;o60;l h;", 1, 1 << 23);
        // Two in the first spot would do it too, and are a lesser number: fewer are ahead of that.
        fewest("r4;i;c b;i;a16;l b;l a;", 1, 1 << 9);
        fewest("r4;i;c b;a16;l b;l a;", 2, 3);
    }

    private static void fewestAsIfNoneWerePlaced() {
        says("Terms", "the fewest ISLANDS, as if none were placed");
        JumpLengths x = told("i;c a;o60;l a;l b;l c;l d;l e;l f;");
        due("fewest(0)", x.fewest(0), 1);
        for (int label = 0; label < 6; label++) {
            x.places(0, label);
            due("fewest(0) with islands", x.fewest(0), 1);
            due("fewest(1) with islands", x.fewest(1), 1);
        }
        due("count(6) behind fewest", x.count(6), 6);
    }

    private static void fewestOfWhatIsNow() {
        says("Terms", "by which all CALLS are SERVED in the LAYOUT GROWN then");
        JumpLengths x = told("r9;l b;i;j b;c a;o1;l a;");
        due("fewest(0)", x.fewest(0), 0);
        x.sizes(4, 60);
        due("fewest(0) of a call that is too far", x.fewest(0), 1);
        due("fewest(1) of a call that is too far", x.fewest(1), 1);
        x.pins(2);
        due("fewest(0) over a jump that is long", x.fewest(0), NONE);
        due("fewest(1) over a jump that is long", x.fewest(1), NONE);
        x.undo();
        due("fewest(0) over a jump that is short", x.fewest(0), 1);
        x.undo();
        due("fewest(0) of a call that is near", x.fewest(0), 0);
        due("fewest(1) of a call that is near", x.fewest(1), 0);
    }

    private static void whatIsAskedOfFewest() {
        says("Promise 16", "FEWEST: how many (what = 0), which (1); NONE. BAD.");
        String[] sources = {"", "i;c a;o60;l a;", "c a;o60;l a;"};
        for (String text : sources) {
            for (int what : WRONG_BITS) due("fewest(" + what + ") of '" + text + "'", told(text).fewest(what), BAD);
        }
    }

    // ---- promise 17

    private static void oddsBy0To10() {
        says("Terms", "ODDS by x (0 .. 10) for a JUMP");
        odds("r4;j a;o4;l a;", 0, 0, 0, 1);
        odds("r4;j a;o4;l a;", 0, 10, 1, 1);
        int[][] leastTerms = {{1, 10}, {1, 5}, {3, 10}, {2, 5}, {1, 2}, {3, 5}, {7, 10}, {4, 5}, {9, 10}};
        for (int x = 1; x < 10; x++) odds("r4;j a;o4;l a;", 0, x, leastTerms[x - 1][0], leastTerms[x - 1][1]);
        JumpLengths x = told("r4;j a;o4;l a;");
        for (int by : new int[] {-1, 11, 20, LOWEST, HIGHEST}) {
            for (int what = 0; what < 2; what++) due("odds(0, " + by + ", " + what + ")", x.odds(0, by, what), BAD);
        }
    }

    private static void oddsOfJumpsAlone() {
        says("Promise 17", "ODDS: upper (what = 0), lower number (1), in least terms. BAD: also no JUMP.");
        JumpLengths x = told("o7;l a;j a;a8;c a;i;");
        for (int k : new int[] {0, 1, 3, 4, 5, -1, 6, 32, LOWEST, HIGHEST}) {
            for (int what = 0; what < 2; what++) due("odds(" + k + ", 5, " + what + ")", x.odds(k, 5, what), BAD);
        }
        for (int what : WRONG_BITS) due("odds(2, 5, " + what + ")", x.odds(2, 5, what), BAD);
        due("odds(2, 5, 0)", x.odds(2, 5, 0), 0);
        due("odds(2, 5, 1)", x.odds(2, 5, 1), 1);
    }

    private static void oddsWithoutOps() {
        says("Promise 17", "in least terms");
        for (int x = 0; x <= 10; x++) {
            odds("j a;l a;", 0, x, 0, 1);
            odds("r4;l a;j b;j a;j a;l b;", 3, x, 1, 1);
        }
    }

    private static void oddsOfTheFirst6Ops() {
        says("Terms", "(of 6 OPS, the first ones, alone; others as they are)");
        // Long if six are longer: of seven the seventh never is.
        odds("r11;j a;" + "o1;".repeat(6) + "l a;", 0, 1, 1, 1000000);
        odds("r12;j a;" + "o1;".repeat(6) + "l a;", 0, 10, 0, 1);
        odds("r12;j a;" + "o1;".repeat(7) + "l a;", 0, 1, 1, 1000000);
        odds("r12;j a;" + "o1;".repeat(7) + "l a;", 0, 10, 1, 1);
        odds("r13;j a;" + "o1;".repeat(7) + "l a;", 0, 10, 0, 1);
        odds("r4;" + "o1;".repeat(6) + "j a;o4;l a;", 6, 10, 0, 1);
        odds("r4;" + "o1;".repeat(5) + "j a;o4;l a;", 5, 10, 1, 1);
        odds("r4;j a;o4;l a;" + "o1;".repeat(28), 0, 3, 3, 10);
        odds("r6;j a;" + "o1;".repeat(6) + "l a;", 0, 9, 999999, 1000000);
    }

    private static void oddsOfAnOpOf60() {
        says("Terms", "each OP is 1 longer by x of 10");
        odds("r60;j a;o60;l a;", 0, 3, 3, 10);
        odds("r61;j a;o60;l a;", 0, 10, 0, 1);
        JumpLengths x = told("r60;j a;o60;l a;");
        x.odds(0, 10, 0);
        due("item(1, 1) behind odds", x.item(1, 1), 60);
        due("way(0, 1) behind odds", x.way(0, 1), 0);
    }
}
