/** The edges of promises 1 to 4 and of part 1 of the terms: THE TEXT, and how it is read. */
public final class TextEdgesTest extends Checks {
    private static final int TEXT_MOST = 150;
    /** The letters that begin an ITEM or tell the REACH. */
    private static final String FIRST_LETTERS = "oljacir";

    public static void main(String[] args) throws IllegalAccessException {
        runAll(TextEdgesTest.class);
    }

    private static boolean isLetter(int c) {
        return c >= 'a' && c <= 'z';
    }

    private static boolean isDigit(int c) {
        return c >= '0' && c <= '9';
    }

    private static boolean beginsItem(int c) {
        return FIRST_LETTERS.indexOf(c) >= 0;
    }

    /** Right if the items are 0 or more, else a fault at the place. */
    private static void rightOrFault(String text, int items, int place) {
        if (items >= 0) right(text, items);
        else fault(text, place);
    }

    // ---- promise 1

    private static void aNewObjectHasNothing() {
        says("Promise 1", "As told; no ITEMS.");
        JumpLengths x = new JumpLengths();
        counts(x, "of a new object", 0, 0, 0, 0, 0, 20, 0, 0, 0);
        due("item(0, 0)", x.item(0, 0), BAD);
        due("sizes(0, 1)", x.sizes(0, 1), BAD);
        due("pins(0)", x.pins(0), BAD);
        due("places(0, 0)", x.places(0, 0), BAD);
        due("takes(0, 0)", x.takes(0, 0), BAD);
        due("undo()", x.undo(), STATE);
        due("lies(0, 0, 0)", x.lies(0, 0, 0), NO);
        due("odds(0, 0, 0)", x.odds(0, 0, 0), BAD);
        due("back(0)", x.back(0), STATE);
        due("back(1)", x.back(1), STATE);
        due("clear()", x.clear(), 0);
        due("source()", x.source(), 0);
    }

    private static void aNewObjectHasAnEmptyCode() {
        says("Promise 1", "As told; no ITEMS.");
        JumpLengths x = new JumpLengths();
        for (int way : WAYS) {
            ways(x, "a new object", way, 0, 0, 0, 0, 0, 0);
            due("code(" + way + ", 0)", x.code(way, 0), BAD);
            due("origin(" + way + ", 0)", x.origin(way, 0), BAD);
        }
        due("narrow()", x.narrow(), 4);
        due("fewest(0)", x.fewest(0), 0);
        due("fewest(1)", x.fewest(1), 0);
        due("keep(0)", x.keep(0), 0);
        due("back(0)", x.back(0), 0);
    }

    private static void theReachIs20AtFirst() {
        says("Terms", "REACH (4 .. 127; 20 at first)");
        due("the reach of a new object", new JumpLengths().count(5), 20);
        due("the reach of a source without r", told("o1;").count(5), 20);
        due("a jump over 20", told("j a;" + ops(20) + "l a;").way(0, 1), 0);
        due("a jump over 21", told("j a;" + ops(21) + "l a;").way(0, 1), 1);
        due("a jump back over 21 in all", told("l a;" + ops(19) + "j a;").way(0, 1), 0);
        due("a jump back over 22 in all", told("l a;" + ops(20) + "j a;").way(0, 1), 1);
    }

    // ---- promise 2

    private static void bytesAre0To255() {
        says("Promise 2", "A byte (0 .. 255) comes to THE TEXT: how many it has.");
        JumpLengths x = new JumpLengths();
        due("type(0)", x.type(0), 1);
        due("type(255)", x.type(255), 2);
        for (int c : new int[] {-1, 256, 257, -256, 32 + 256, LOWEST, HIGHEST}) due("type(" + c + ")", x.type(c), BAD);
        due("count(8) behind what was refused", x.count(8), 2);
        due("type(1) behind what was refused", x.type(1), 3);
    }

    private static void everyByteComesToTheText() {
        says("Promise 2", "A byte (0 .. 255) comes to THE TEXT: how many it has.");
        for (int first = 0; first < 256; first += 128) {
            JumpLengths x = new JumpLengths();
            for (int n = 0; n < 128; n++) due("type(" + (first + n) + ")", x.type(first + n), n + 1);
        }
    }

    private static void theTextIsFullWith150() {
        says("Terms", "They are a text (150 bytes at most)");
        says("Promise 2", "BAD; FULL.");
        JumpLengths x = new JumpLengths();
        type(x, "o1;");
        for (int n = 4; n <= TEXT_MOST; n++) due("byte " + n, x.type(' '), n);
        due("byte 151", x.type('?'), FULL);
        due("byte 151 again", x.type('?'), FULL);
        due("count(8) of a full text", x.count(8), TEXT_MOST);
        due("source of a full text, without byte 151", x.source(), 1);
        due("count(8) behind source", x.count(8), 0);
        due("the first byte behind it", x.type('o'), 1);
    }

    private static void ofAFullTextAWrongByteIsBad() {
        says("Promise 2", "BAD; FULL.");
        JumpLengths x = new JumpLengths();
        type(x, " ".repeat(TEXT_MOST));
        for (int c : new int[] {-1, 256, LOWEST, HIGHEST}) due("type(" + c + ") of a full text", x.type(c), BAD);
        due("clear of a full text", x.clear(), TEXT_MOST);
        due("the first byte behind clear", x.type(255), 1);
    }

    // ---- promise 3

    private static void clearOfNothingAndOfAll() {
        says("Promise 3", "THE TEXT is empty: how many bytes it had.");
        JumpLengths x = new JumpLengths();
        due("clear of nothing", x.clear(), 0);
        due("type", x.type('o'), 1);
        due("clear of one", x.clear(), 1);
        due("clear again", x.clear(), 0);
        type(x, "x".repeat(TEXT_MOST));
        due("clear of 150", x.clear(), TEXT_MOST);
        due("count(8)", x.count(8), 0);
        type(x, "o2;");
        due("source of what was typed behind clear", x.source(), 1);
    }

    private static void clearLeavesTheSource() {
        says("Promise 3", "THE TEXT is empty: how many bytes it had.");
        JumpLengths x = told("r9;o3;l a;j a;i;");
        x.pins(2);
        x.keep(1);
        type(x, "o4;");
        due("clear", x.clear(), 3);
        counts(x, "behind clear", 4, 1, 0, 1, 1, 9, 0, 1, 0);
        due("back(1)", x.back(1), 0);
        due("undo()", x.undo(), 0);
    }

    // ---- promise 4: what is right

    private static void anEmptyTextTellsNoItems() {
        says("Promise 4", "THE TEXT tells all, and is empty then: how many ITEMS.");
        right("", 0);
        right(" ", 0);
        right(" ".repeat(TEXT_MOST), 0);
        right("r4;", 0);
        JumpLengths x = told("r9;o3;l a;j a;c a;i;");
        x.places(0, 0);
        x.keep(0);
        due("source of nothing", x.source(), 0);
        counts(x, "of nothing", 0, 0, 0, 0, 0, 20, 0, 0, 0);
        due("way(0, 0) of nothing", x.way(0, 0), 0);
        due("item(0, 0) of nothing", x.item(0, 0), BAD);
        due("back(0) of nothing", x.back(0), STATE);
        due("undo() of nothing", x.undo(), STATE);
    }

    private static void aFullTextIsRead() {
        says("Terms", "They are a text (150 bytes at most)");
        String text = "r127;l a;" + "j a;".repeat(10) + "c a;".repeat(6) + "i;i;i;" + "o60;".repeat(12);
        String blanks = " ".repeat(TEXT_MOST - text.length());
        right(text + blanks, 32);
        right(blanks + text, 32);
        fault(text.substring(0, text.length() - 4) + blanks + "o600", TEXT_MOST - 3);
        fault(text.substring(0, text.length() - 1) + blanks + "x", TEXT_MOST - 1);
        fault(text.substring(0, text.length() - 1) + blanks + " ", TEXT_MOST);
    }

    private static void sourceEmptiesTheText() {
        says("Promise 4", "THE TEXT tells all, and is empty then: how many ITEMS.");
        JumpLengths x = told("o5;o6;");
        due("count(8) behind source", x.count(8), 0);
        due("clear behind source", x.clear(), 0);
        type(x, "o7;");
        due("source of what was typed behind it alone", x.source(), 1);
        due("item(0, 1)", x.item(0, 1), 7);
    }

    private static void readAnewAllIsAsTold() {
        says("Terms", "(Read anew: as told, nothing to be UNDONE, IMAGES are gone.)");
        JumpLengths x = told("r9;o3;l a;j a;i;");
        x.sizes(0, 7);
        x.pins(2);
        x.places(0, 0);
        x.keep(0);
        x.keep(1);
        type(x, "o3;l a;j a;i;");
        due("source", x.source(), 4);
        counts(x, "read anew", 4, 1, 0, 1, 1, 20, 0, 0, 0);
        due("the size", x.item(0, 1), 3);
        due("whether it is pinned", x.item(2, 2), 0);
        due("how many islands", x.item(3, 1), 0);
        due("undo()", x.undo(), STATE);
        due("back(0)", x.back(0), STATE);
        due("back(1)", x.back(1), STATE);
        due("takes(0, 0)", x.takes(0, 0), STATE);
        due("way(0, 0)", x.way(0, 0), 5);
    }

    private static void readAnewAllIsFoundAnew() {
        says("Promise 4", "THE TEXT tells all, and is empty then: how many ITEMS.");
        JumpLengths x = told("j a;o30;l a;c a;");
        for (int way : WAYS) ways(x, "what was told first", way, 37, 1, way == 0 ? 1 : 0, 0, 1, 769);
        due("fewest(0) of what was told first", x.fewest(0), 0);
        type(x, "c a;o60;l a;i;j a;");
        x.source();
        for (int way : WAYS) ways(x, "what is told anew", way, 64, 0, way == 1 ? 1 : 0, 0, 0, 1218);
        due("fewest(0) of what is told anew", x.fewest(0), NONE);
        due("narrow() of what is told anew", x.narrow(), 4);
    }

    // ---- promise 4: how many there may be

    private static void itemsAre32AtMost() {
        says("Terms", "(32 at most)");
        String items = "o1;".repeat(32);
        right("o1;".repeat(31), 31);
        right(items, 32);
        right(items + "  ", 32);
        // The REACH is no ITEM.
        right("r5;" + items, 32);
        fault("r5;" + items + "o1;", 99);
        for (String more : new String[] {"o1;", "l a;", "j a;", "a2;", "c a;", "i;", "o", "i", "o61;", "x", "r4;", "5", ";", "?"}) {
            fault(items + more, 96);
            fault(items + " " + more, 97);
        }
        String mixed = "l a;l b;l c;l d;l e;l f;l g;l h;a2;a4;a8;a16;o1;j a;c h;i;";
        right(mixed + "o1;".repeat(16), 32);
        fault(mixed + "o1;".repeat(16) + "a2;", mixed.length() + 48);
    }

    private static void jumpsAre10AtMost() {
        says("Terms", "JUMPS 10 at most");
        String jumps = "l a;" + "j a;".repeat(10);
        right("l a;" + "j a;".repeat(9), 10);
        right(jumps, 11);
        right(jumps + "o1;c a;i;a2;l b;", 16);
        for (String more : new String[] {"j a;", "j", "j i;", "j b;", "j 1;", "j;"}) fault(jumps + more, 44);
        fault(jumps + "o1;c a;  j a;", 53);
    }

    private static void callsAre6AtMost() {
        says("Terms", "CALLS 6 at most");
        String calls = "l a;" + "c a;".repeat(6);
        right("l a;" + "c a;".repeat(5), 6);
        right(calls, 7);
        right(calls + "o1;j a;i;a2;l b;", 12);
        for (String more : new String[] {"c a;", "c", "c i;", "c b;", "c 1;", "c;"}) fault(calls + more, 28);
        fault(calls + "o1;j a;  c a;", 37);
    }

    private static void spotsAre3AtMost() {
        says("Terms", "i (SPOT; 3 at most)");
        right("i;i;", 2);
        right("i;i;i;", 3);
        right("i;i;i;o1;l a;j a;c a;a2;", 8);
        for (String more : new String[] {"i;", "i", "i 5;", "i i;"}) fault("i;i;i;" + more, 6);
        fault("i;i;i;o1; i;", 10);
    }

    private static void allLimitsAtOnce() {
        says("Terms", "too many ITEMS, JUMPS, CALLS, SPOTS (at the letter)");
        String text = "l a;" + "j a;".repeat(10) + "c a;".repeat(6) + "i;i;i;" + "o1;".repeat(12);
        JumpLengths x = new JumpLengths();
        // What the first text told takes no room from the second.
        for (int time = 0; time < 2; time++) {
            type(x, text);
            due("source of all that may be", x.source(), 32);
            counts(x, "of all that may be", 32, 10, 6, 3, 12, 20, 0, 0, 0);
            due("lies(0, 31, 0) of all that may be", x.lies(0, 31, 0), 43);
        }
        fault(text + "o1;", 110);
        String fewer = text.substring(0, text.length() - 3);
        for (String more : new String[] {"j a;", "c a;", "i;"}) fault(fewer + more, 107);
    }

    // ---- promise 4: what a NUMBER, a LABEL may be

    private static void sizesAre1To60() {
        says("Terms", "a NUMBER beyond what it may be, too");
        says("Terms", "OP (SIZE 1 .. 60)");
        for (int size = 0; size <= 70; size++) {
            boolean may = size >= 1 && size <= 60;
            rightOrFault("o" + size + ";", may ? 1 : -1, 1);
            rightOrFault("l a; o  " + size + " ;", may ? 2 : -1, 8);
            if (may) due("the size of o" + size, told("o" + size + ";").item(0, 1), size);
        }
        for (String size : new String[] {"100", "101", "160", "256", "257", "316", "999"}) fault("o" + size + ";", 1);
    }

    private static void labelsAreAToH() {
        says("Terms", "are no LABEL's");
        for (char letter = 'a'; letter <= 'z'; letter++) {
            boolean may = letter <= 'h';
            rightOrFault("l " + letter + ";", may ? 1 : -1, 2);
            rightOrFault("l a;l h;j " + letter + ";", letter == 'a' || letter == 'h' ? 3 : -1, may ? 12 : 10);
            rightOrFault("l a;l h;c  " + letter + ";", letter == 'a' || letter == 'h' ? 3 : -1, may ? 13 : 11);
            if (may) due("label " + letter, told("l " + letter + ";").item(0, 1), letter - 'a');
        }
        for (String label : new String[] {"A", "H", "aa", "ah", "ha", "1", "0", ";", "`", "{"}) {
            fault("l " + label + ";", 2);
            fault("j " + label + ";", 2);
            fault("c " + label + ";", 2);
        }
    }

    private static void aLabelIsToldOnce() {
        says("Terms", "a LABEL told twice");
        for (char letter = 'a'; letter <= 'h'; letter++) {
            fault("l " + letter + ";l " + letter + ";", 6);
            fault("l " + letter + ";o1;j " + letter + ";  l   " + letter + ";", 17);
        }
        right("l a;l b;l c;l d;l e;l f;l g;l h;", 8);
        fault("l a;l b;l c;l d;l e;l f;l g;l h;l a;", 34);
        fault("l a;l b;l c;l d;l e;l f;l g;l h;l h;", 34);
        // To be jumped to or called is not to be told.
        right("j a;j a;c a;l a;j a;c a;", 6);
    }

    private static void aLabelIsFreeAgainReadAnew() {
        says("Terms", "LABEL (a .. h, each once at most)");
        JumpLengths x = told("l a;");
        type(x, "l a;l b;");
        due("a is told anew", x.source(), 2);
        type(x, "l c;l a;l c;");
        due("c is told twice", x.source(), -10 - 10);
        x.clear();
        type(x, "l c;");
        due("c behind the fault", x.source(), 1);
        type(x, "j a;");
        due("a is not there anew", x.source(), -10 - 4);
    }

    private static void alignsAre2And4And8And16() {
        says("Terms", "ALIGN (2, 4, 8, 16)");
        for (int to = 0; to <= 65; to++) {
            boolean may = to == 2 || to == 4 || to == 8 || to == 16;
            rightOrFault("a" + to + ";", may ? 1 : -1, 1);
            if (may) due("what a" + to + " aligns to", told("a" + to + ";").item(0, 1), to);
        }
        for (String to : new String[] {"128", "256", "512", "999"}) fault("o1;a " + to + ";", 5);
    }

    private static void reachesAre4To127() {
        says("Terms", "REACH (4 .. 127; 20 at first)");
        for (int reach = 0; reach <= 140; reach++) {
            boolean may = reach >= 4 && reach <= 127;
            rightOrFault("r" + reach + ";", may ? 0 : -1, 1);
            if (may) due("the reach of r" + reach, told("r" + reach + ";o1;").count(5), reach);
        }
        for (String reach : new String[] {"255", "256", "260", "276", "999"}) fault(" r " + reach + ";", 3);
    }

    private static void theReachIsToldFirst() {
        says("Terms", "r behind another");
        says("Terms", "the first of all, if it is told");
        right("   r9;o1;", 1);
        fault("r9;r9;", 3);
        fault("r9; r10;", 4);
        fault("o1;r9;", 3);
        fault("o1;r9", 3);
        fault("i;r", 2);
        fault("r9;o1;r9;", 6);
        fault("l r;", 2);
        fault("r r;", 2);
    }

    private static void numbersWithManyDigits() {
        says("Terms", "a NUMBER above 999");
        // Those that would be 1, 2, 20 by a number of 8, 16, 31, 32, 63, 64 bits.
        String[][] around = {
            {"o", "257"}, {"o", "65537"}, {"o", "2147483649"}, {"o", "4294967297"}, {"o", "9223372036854775809"},
            {"o", "18446744073709551617"}, {"a", "258"}, {"a", "65538"}, {"a", "4294967298"}, {"a", "4294967300"},
            {"a", "18446744073709551618"}, {"r", "276"}, {"r", "65556"}, {"r", "4294967316"}, {"r", "18446744073709551636"}};
        for (String[] told : around) {
            fault(told[0] + told[1] + ";", 1);
            fault(told[0] + "  " + told[1], 3);
        }
        for (String number : new String[] {"1000", "1001", "1004", "1020", "1060", "9999", "10000", "99999999999"}) {
            for (String letter : new String[] {"o", "a", "r"}) fault(letter + number + ";", 1);
            // Where no NUMBER can stand, it is that TOKEN's place too.
            fault("l " + number + ";", 2);
            fault("i" + number + ";", 1);
            fault("o1;" + number, 3);
            fault("o1 " + number, 3);
        }
    }

    private static void numbersOfAllDigitsThatFit() {
        says("Terms", "a NUMBER above 999");
        for (int digits = 3; digits < TEXT_MOST; digits++) {
            fault("o" + "1".repeat(digits), 1);
            fault("o" + "9".repeat(digits), 1);
            fault("o" + "0".repeat(digits), 1);
            fault("1".repeat(digits), 0);
        }
    }

    private static void numbersWithA0Ahead() {
        says("Terms", "with a 0 ahead of others");
        for (String text : new String[] {"o00;", "o01;", "o001;", "o060;", "o010;", "a02;", "a016;", "a0016;", "r04;", "r020;", "r0127;"}) {
            fault(text, 1);
        }
        fault("o" + "0".repeat(140) + "1;", 1);
        fault("o0 1;", 1);
        fault("o1 01;", 3);
        fault("l 01;", 2);
        fault("01;", 0);
        // A 0 behind others is as any digit.
        right("o10;o20;o30;o40;o50;o60;", 6);
        right("r100;", 0);
    }

    // ---- promise 4: TOKENS

    private static void blanksStandBetweenTokens() {
        says("Terms", "blanks (32) between TOKENS");
        right("r9;o5;l a;j a;a4;c a;i;", 6);
        right(" r 9 ; o 5 ; l a ; j a ; a 4 ; c a ; i ; ", 6);
        right("   r   9   ;   o   5   ;   l   a   ;   j   a   ;   i   ;   ", 4);
        // A blank parts what would be one TOKEN.
        fault("o1 2;", 3);
        fault("o 1 2;", 4);
        fault("l a b;", 4);
        fault("r1 0;", 1);
        fault("r10 0;", 4);
        fault("i i;", 2);
        fault("o o1;", 2);
        for (int other : new int[] {0, 9, 10, 11, 12, 13, 31, 33, 127, 160, 255}) {
            fault((char) other + "o1;", 0);
            fault("o" + (char) other + "1;", 1);
            fault("o1" + (char) other + ";", 2);
            fault("o1;" + (char) other, 3);
            fault("l" + (char) other + "a;", 1);
        }
    }

    private static void lettersSideBySideAreOneToken() {
        says("Terms", "TOKENS are letters a .. z side by side, NUMBERS and ;");
        for (String text : new String[] {"oo;", "la;", "ja;", "ca;", "ii;", "rr4;", "oa5;", "ol 1;", "il a;", "lla;"}) fault(text, 0);
        fault("l a;ja;", 4);
        fault("l ab;", 2);
        fault("l a;j ab;", 6);
        fault("l a;j aj a;", 6);
        // Letters and NUMBERS, NUMBERS and letters, ; and all else need no blank.
        right("o5;l a;j a;a4;", 4);
        fault("o5l a;", 2);
        fault("l a5;", 3);
        fault("i5;", 1);
    }

    private static void lettersThatBeginNoItem() {
        says("Terms", "letters that begin no ITEM");
        for (char letter = 'a'; letter <= 'z'; letter++) {
            if (beginsItem(letter)) continue;
            fault(letter + ";", 0);
            fault(letter + " a;", 0);
            fault(letter + "5;", 0);
            fault("o1;" + letter, 3);
        }
    }

    private static void allBytesWhereATokenBegins() {
        says("Terms", "of a byte that begins none");
        for (int c = 0; c < 256; c++) {
            String sign = String.valueOf((char) c);
            boolean isItem = beginsItem(c);
            rightOrFault(sign, c == ' ' ? 0 : -1, isItem ? 1 : 0);
            rightOrFault("o1;" + sign, c == ' ' ? 1 : -1, isItem && c != 'r' ? 4 : 3);
            rightOrFault("o1" + sign, c == ';' ? 1 : -1, c == ' ' || isDigit(c) ? 3 : 2);
            rightOrFault("o" + sign + ";", c >= '1' && c <= '9' ? 1 : -1, isLetter(c) ? 0 : c == ' ' ? 2 : 1);
            rightOrFault("l " + sign + ";", c >= 'a' && c <= 'h' ? 1 : -1, c == ' ' ? 3 : 2);
            rightOrFault("i" + sign, c == ';' ? 1 : -1, isLetter(c) ? 0 : c == ' ' ? 2 : 1);
        }
    }

    // ---- promise 4: FAULT

    private static void eachItemIsEnded() {
        says("Terms", "each ITEM is ended by ;");
        fault("o1o2;", 2);
        fault("o1 o2;", 3);
        fault("l a l b;", 4);
        fault("l a;j a j a;", 8);
        fault("a2a2;", 2);
        fault("c a c a;", 4);
        fault("i i;", 2);
        fault("r9 o1;", 3);
        fault("o1;;", 3);
        fault("r9;;", 3);
        fault(";", 0);
        fault("o;", 1);
        fault("l;", 1);
        fault("j ;", 2);
        fault("a;", 1);
        fault("c;", 1);
        fault("r;", 1);
    }

    private static void aTextThatEndsTooEarly() {
        says("Terms", "the text's length, if it ends too early");
        String text = "l a;o5;j a;a16;c a;i;";
        int items = 0;
        for (int length = 0; length <= text.length(); length++) {
            String head = text.substring(0, length);
            boolean isWhole = head.isEmpty() || head.endsWith(";");
            if (head.endsWith(";")) items++;
            // 1 is the head of 16, and no ALIGN is to 1.
            boolean isOther = head.endsWith("a1");
            rightOrFault(head, isWhole ? items : -1, isOther ? length - 1 : length);
            rightOrFault(head + "  ", isWhole ? items : -1, isOther ? length - 1 : length + 2);
        }
        fault("r", 1);
        fault("r20", 3);
        fault("r20 ", 4);
    }

    private static void aLabelThatIsNotThere() {
        says("Terms", "or if, all else being right, a JUMP, a CALL is to a LABEL that is not there.");
        fault("j a;", 4);
        fault("c h;", 4);
        fault("j a;   ", 7);
        fault("j a;l b;", 8);
        fault("l a;j b;j a;", 12);
        fault("l b;c b;c a;o1;", 15);
        fault("j a;c b;", 8);
        // All else is not right: the fault is there.
        fault("j a;x", 4);
        fault("j a;o61;", 5);
        fault("c a;l b;l b;", 10);
        fault("j a;?", 4);
        fault("j a;i", 5);
        right("j a;l a;", 2);
        right("c a;j a;o1;l a;", 4);
    }

    private static void theFirstFaultCounts() {
        says("Terms", "FAULT: the place of the first byte of the first TOKEN that can't stand there");
        fault("x;o61;", 0);
        fault("o61;x;", 1);
        fault("o61;?", 1);
        fault("x 01", 0);
        fault("x 1000", 0);
        fault("o1;x ?", 3);
        fault("l i;l i;", 2);
        fault("  x", 2);
        fault("  xyz", 2);
        fault("o1;  abc;", 5);
        fault("o   61;", 4);
        fault("o5   a;", 5);
    }

    private static void faultsFrom0To150() {
        says("Promise 4", "-10 less FAULT: nothing changes.");
        for (int place = 0; place < TEXT_MOST; place++) fault(" ".repeat(place) + "?", place);
        for (int length = 1; length <= TEXT_MOST; length++) fault(" ".repeat(length - 1) + "o", length);
    }

    private static void aTextWithAFaultStaysToBeTypedOn() {
        says("Promise 4", "-10 less FAULT: nothing changes.");
        JumpLengths x = told("o9;");
        type(x, "l a;o");
        due("source of what ends too early", x.source(), -10 - 5);
        due("source of it again", x.source(), -10 - 5);
        due("the items stay", x.count(0), 1);
        due("the size stays", x.item(0, 1), 9);
        due("the next byte", x.type('5'), 6);
        due("source again", x.source(), -10 - 6);
        due("the next byte", x.type(';'), 7);
        due("source of all", x.source(), 2);
        due("the size", x.item(1, 1), 5);
    }
}
