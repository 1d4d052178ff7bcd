import java.io.IOException;
import java.lang.reflect.Field;
import java.lang.reflect.Method;
import java.lang.reflect.Modifier;
import java.nio.file.Files;
import java.nio.file.Path;
import java.util.Set;
import java.util.TreeSet;
import java.util.regex.Matcher;
import java.util.regex.Pattern;

/** The sentences of the document that name no edge, each with answers worked out by hand. */
public final class TermsTest extends Checks {
    public static void main(String[] args) throws IllegalAccessException {
        runAll(TermsTest.class);
    }

    private static void lies(JumpLengths x, int what, int... wants) {
        for (int way : WAYS) {
            for (int k = 0; k < wants.length; k++) {
                due("lies(" + way + ", " + k + ", " + what + ")", x.lies(way, k, what), wants[k]);
            }
        }
    }

    // ---- the public face

    private static void theFaceIsTheDocuments() throws IOException, IllegalAccessException {
        says("The public face", "public final class JumpLengths {");
        Set<String> told = new TreeSet<>();
        String document = Files.readString(Path.of("../shared/DOC.md"));
        Matcher call = Pattern.compile("(?m)^ +public int (\\w+)\\(([^)]*)\\);$").matcher(document);
        while (call.find()) told.add(call.group(1) + " " + Pattern.compile("int ").matcher(call.group(2)).results().count());
        Matcher row = Pattern.compile("(?m)^ +public static final int (.*);$").matcher(document);
        while (row.find()) {
            for (String constant : row.group(1).split(", ")) told.add(constant);
        }
        Set<String> face = new TreeSet<>();
        for (Method method : JumpLengths.class.getMethods()) {
            if (method.getDeclaringClass() != JumpLengths.class) continue;
            face.add(method.getName() + " " + method.getParameterCount());
            if (method.getReturnType() != int.class) fail(method + " answers no int");
        }
        for (Field field : JumpLengths.class.getFields()) {
            face.add(field.getName() + " = " + field.getInt(null));
            if (!Modifier.isFinal(field.getModifiers())) fail(field + " is not final");
        }
        if (!face.equals(told)) fail("the face has " + face + ", the document " + told);
    }

    private static void noIsWhatNoDistanceIs() {
        says("Terms", "What none is, where a number may be below 0.");
        // How far it goes may be the number of STATE, of FULL, of NONE.
        due("as STATE is", told("l a;j a;").lies(0, 1, 2), -2);
        due("as FULL is", told("l a;o1;j a;").lies(0, 2, 2), -3);
        JumpLengths x = told("l a;o7;j a;");
        due("as NONE is", x.lies(0, 2, 2), -9);
        due("what is none", x.lies(0, 3, 2), -1000000);
    }

    // ---- part 1 of the terms

    private static void eachItemHasItsLetter() {
        says("Terms", ": o N (OP), l X (LABEL), j X (JUMP), a N (ALIGN), c X (CALL), i (SPOT; 3 at most)");
        JumpLengths x = told("o5;l h;j b;a4;c h;i;l b;");
        int[][] wants = {{0, 5}, {1, 7}, {2, 1}, {3, 4}, {4, 7}, {5, 0}, {1, 1}};
        for (int k = 0; k < wants.length; k++) {
            due("item(" + k + ", 0)", x.item(k, 0), wants[k][0]);
            due("item(" + k + ", 1)", x.item(k, 1), wants[k][1]);
        }
        counts(x, "of all sorts", 7, 1, 1, 1, 1, 20, 0, 0, 0);
    }

    private static void theReachIsNoItem() {
        says("Terms", "r N (REACH; it is no ITEM;");
        JumpLengths x = told("r9;o5;l a;");
        counts(x, "with a reach", 2, 0, 0, 0, 1, 9);
        due("the first item", x.item(0, 0), 0);
        due("the second item", x.item(1, 0), 1);
        due("the third item", x.item(2, 0), BAD);
    }

    private static void theTextIsReadByteByByte() {
        says("Terms", "read byte by byte");
        JumpLengths x = told("o3;");
        String text = "r 10;o 11;l a;j a;";
        for (int i = 0; i < text.length(); i++) {
            due("type of byte " + i, x.type(text.charAt(i)), i + 1);
            // What the text has is nothing until it is read.
            counts(x, "behind byte " + i, 1, 0, 0, 0, 1, 20, 0, 0, i + 1);
            due("the size behind byte " + i, x.way(0, 0), 3);
        }
        due("source", x.source(), 3);
        counts(x, "read", 3, 1, 0, 0, 1, 10, 0, 0, 0);
        due("the size read", x.way(0, 0), 13);
    }

    // ---- part 2 of the terms

    private static void itemsLieOneBehindTheOther() {
        says("Terms", "A JUMP is SHORT (2 bytes) or LONG (5).");
        says("Terms", "ITEMS lie one behind the other from 0 on: an OP of SIZE bytes, a LABEL of none, a JUMP of 2 or 5,");
        JumpLengths x = told("o7;l a;j a;c a;i;o1;j b;l b;");
        lies(x, 0, 0, 7, 7, 9, 11, 11, 12, 14);
        lies(x, 1, 7, 0, 2, 2, 0, 1, 2, 0);
        x.pins(2);
        lies(x, 0, 0, 7, 7, 12, 14, 14, 15, 17);
        lies(x, 1, 7, 0, 5, 2, 0, 1, 2, 0);
        says("Terms", ", a CALL of 2, a SPOT of 5 for each ISLAND that is placed there.");
        x.places(0, 1);
        x.places(0, 0);
        lies(x, 0, 0, 7, 7, 12, 14, 24, 25, 27);
        lies(x, 1, 7, 0, 5, 2, 10, 1, 2, 0);
    }

    private static void howFarIsFromItsEnd() {
        says("Terms", "How far a JUMP, a CALL goes: where its LABEL lies, less its own end.");
        JumpLengths x = told("o7;l a;j a;c a;i;o1;j b;l b;");
        lies(x, 2, 0, 0, -2, -4, 0, 0, 0, 0);
        x.pins(2);
        lies(x, 2, 0, 0, -5, -7, 0, 0, 0, 0);
        // To its LABEL, not to the ISLAND that serves it.
        x = told("r4;l a;o9;c a;i;");
        x.places(0, 0);
        for (int way : WAYS) {
            due("the call is served", x.way(way, 4), 1);
            due("how far it goes", x.lies(way, 2, 2), -11);
        }
    }

    private static void whatIsGood() {
        says("Terms", "A LAYOUT is GOOD, if each SHORT JUMP REACHES and those PINNED are LONG.");
        ways(told("r4;j a;o4;l a;"), "short reaches", 2, 6, 0, 0, 0);
        ways(told("r4;j a;o5;l a;"), "short does not reach", 2, 10, 1, 0, 0);
        JumpLengths x = told("r4;j a;o4;l a;");
        x.pins(0);
        ways(x, "it is pinned", 2, 9, 1, 0, 0);
        // A LONG one need not REACH.
        ways(told("r4;j a;o60;o60;o60;l a;"), "long goes anywhere", 2, 185, 1, 0, 0);
    }

    private static void grownBeginsWithThosePinned() {
        says("Terms", "GROWN (way 0): first those PINNED are LONG alone;");
        JumpLengths x = told("r4;j a;o9;l a;j b;l b;");
        ways(x, "none is pinned", 0, 16, 1, 1, 0);
        x.pins(0);
        ways(x, "the long one is pinned", 0, 16, 1, 0, 0);
        x.pins(3);
        ways(x, "both are pinned", 0, 19, 3, 0, 0);
        x.pins(0);
        ways(x, "the other is pinned", 0, 19, 3, 1, 0);
    }

    private static void grownGoesRoundByRound() {
        says("Terms", "round by round all SHORT JUMPS that do not REACH become LONG, together;");
        ways(told("r4;j a;j b;o9;l a;l b;"), "both in one round", 0, 19, 3, 1, 0);
        // The first goes 4 till the second is LONG, then 7.
        ways(told("r4;j a;j b;o2;l a;o5;l b;"), "one by the other", 0, 17, 3, 2, 0);
        ways(told("r7;j a;j b;o2;l a;o6;l b;"), "just not by the other", 0, 15, 2, 1, 0);
    }

    private static void shrunkBeginsWithAllLong() {
        says("Terms", "SHRUNK (1): first all are LONG; round by round all LONG JUMPS that are not PINNED nor HELD, and REACH,");
        says("Terms", "become SHORT, together;");
        JumpLengths x = told("r9;j a;l a;j b;l b;");
        ways(x, "both in one round", 1, 4, 0, 1, 0);
        x.pins(0);
        ways(x, "the first is pinned", 1, 7, 1, 1, 0);
        x.pins(2);
        ways(x, "both are pinned", 1, 10, 3, 0, 0);
        // The first goes 7 till the second is SHORT, then 4.
        ways(told("r6;j a;j b;o2;l a;l b;"), "one by the other", 1, 6, 0, 2, 0);
        ways(told("r4;j a;j b;o2;l a;o5;l b;"), "none reaches", 1, 17, 3, 0, 0);
    }

    private static void shrunkHoldsAsLongAsThereAreSuch() {
        says("Terms", "then, as long as there are such, all SHORT that do not REACH become LONG, together, and HELD;");
        // Round 1: the second is SHORT, goes 9. Round 2: the first too, and the second goes 12; it is
        // LONG again, so the first goes 11; it is LONG again. Both are HELD, though the second goes 6.
        JumpLengths x = told("r9;j b;j a;o6;l b;a8;l a;");
        ways(x, "one by the other", 1, 16, 3, 2, 0);
        ways(x, "one by the other", 2, 16, 1, 0, 0);
        due("how far the first goes", x.lies(1, 0, 2), 11);
        due("how far the second goes", x.lies(1, 1, 2), 6);
    }

    private static void whatIsDone() {
        says("Terms", "SIZED: an OP gets another SIZE. PINNED: a JUMP, or no more. PLACED, TAKEN: an ISLAND.");
        JumpLengths x = told("o5;l a;j a;i;");
        due("sizes(0, 6)", x.sizes(0, 6), 5);
        due("the size", x.item(0, 1), 6);
        due("pins(2)", x.pins(2), 1);
        due("it is pinned", x.item(2, 2), 1);
        due("pins(2) again", x.pins(2), 0);
        due("it is not pinned", x.item(2, 2), 0);
        due("places(0, 0)", x.places(0, 0), 1);
        due("the islands of the spot", x.item(3, 1), 1);
        due("takes(0, 0)", x.takes(0, 0), 0);
        due("the islands of the spot", x.item(3, 1), 0);
        says("Promise 10", "UNDONE: how many more may be.");
        for (int more = 4; more >= 0; more--) due("undo", x.undo(), more);
        due("the size undone", x.item(0, 1), 5);
    }

    // ---- part 3 of the terms

    private static void whatIsWasted() {
        says("Terms", "WASTE of them: how much greater than LEAST.");
        JumpLengths x = told("r5;j a;j a;a8;o3;l a;");
        ways(x, "both waste", 0, 19, 3, 1, 8);
        ways(x, "both waste", 1, 19, 3, 0, 8);
        ways(x, "both waste", 2, 11, 1, 0, 0);
        // With the second pinned the first goes 9 as a SHORT one: LEAST has both LONG too.
        x.pins(1);
        for (int way : WAYS) due("waste of way " + way, x.way(way, 3), 0);
    }

    private static void bytesOfOpsAndAligns() {
        says("Terms", "CODE of a way: the bytes of an OP: 16;");
        says("Terms", "of an ALIGN: 0;");
        JumpLengths x = told("o2;a4;o1;");
        for (int way : WAYS) code(x, way, 16, 16, 0, 0, 16);
        says("Promise 11", "5 all bytes of CODE together. BAD.");
        for (int way : WAYS) due("way(" + way + ", 5)", x.way(way, 5), 48);
        x = told("r4;l a;o9;c a;i;");
        x.places(0, 0);
        for (int way : WAYS) {
            codeFrom(x, way, 8, 16, 3, 0, 4, 240, 255, 255, 255);
            due("way(" + way + ", 5) with an island", x.way(way, 5), 9 * 16 + 3 + 4 + 240 + 3 * 255);
        }
    }

    private static void oddsOfEachOpForItself() {
        says("Terms", "each OP is 1 longer by x of 10, for itself");
        says("Terms", "that it is LONG in GROWN then: a fraction.");
        String byOne = "r4;j a;o2;o2;l a;", byBoth = "r5;j a;o2;o2;l a;";
        odds(byOne, 0, 3, 51, 100);
        odds(byOne, 0, 5, 3, 4);
        odds(byBoth, 0, 3, 9, 100);
        odds(byBoth, 0, 5, 1, 4);
        odds(byBoth, 0, 10, 1, 1);
        odds(byBoth, 0, 0, 0, 1);
        // Its LEAST has the second SHORT, GROWN has not.
        odds("r4;j a;o8;l a;a8;j a;", 4, 0, 1, 1);
    }

    private static void thereIsNoSuchThing() {
        says("Terms", "BAD (a number is not as told, or there is no such thing)");
        JumpLengths x = told("o5;l a;l c;j a;i;");
        due("a size that is not as told", x.sizes(0, 61), BAD);
        due("no such item", x.sizes(5, 6), BAD);
        due("no such spot", x.places(1, 0), BAD);
        due("no such label", x.places(0, 1), BAD);
        due("no such label", x.takes(0, 1), BAD);
        due("such a spot and label", x.places(0, 2), 1);
        says("Promise 8", "An ISLAND of a LABEL that is there is PLACED in SPOT n (0, 1, .. as they come): how many there are.");
        due("one more", x.places(0, 0), 2);
        says("Promise 9", "It is TAKEN: how many there are. BAD;");
        due("one less", x.takes(0, 2), 1);
    }
}
