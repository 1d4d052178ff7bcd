import java.util.ArrayList;
import java.util.List;
import java.util.function.ToIntFunction;

/**
 * A refused call changes nothing, nor does one that asks: an object that had it answers all later
 * calls as one does that had it not.
 */
public final class RefusalTest extends Checks {
    private static final int CALLS_MOST = 512;

    private record Call(String name, ToIntFunction<JumpLengths> made) { }

    /** A source, what is done to it, what is typed behind it, and where that has its FAULT. */
    private record State(String source, List<Call> deeds, String typed, int fault) {
        /** The sorts of its items, as the letters that tell them. */
        String sorts() {
            StringBuilder sorts = new StringBuilder();
            for (String item : source.split(";")) {
                if (!item.isEmpty() && item.charAt(0) != 'r') sorts.append(item.charAt(0));
            }
            return sorts.toString();
        }

        int items() {
            return sorts().length();
        }

        int spots() {
            return (int) sorts().chars().filter(sort -> sort == 'i').count();
        }

        boolean hasLabel(int label) {
            return source.contains("l " + (char) ('a' + label) + ";");
        }
    }

    public static void main(String[] args) throws IllegalAccessException {
        runAll(RefusalTest.class);
    }

    // ---- calls

    private static Call type(int c) {
        return new Call("type(" + c + ")", x -> x.type(c));
    }

    private static Call clear() {
        return new Call("clear()", JumpLengths::clear);
    }

    private static Call source() {
        return new Call("source()", JumpLengths::source);
    }

    private static Call item(int k, int what) {
        return new Call("item(" + k + ", " + what + ")", x -> x.item(k, what));
    }

    private static Call sizes(int k, int size) {
        return new Call("sizes(" + k + ", " + size + ")", x -> x.sizes(k, size));
    }

    private static Call pins(int k) {
        return new Call("pins(" + k + ")", x -> x.pins(k));
    }

    private static Call places(int n, int label) {
        return new Call("places(" + n + ", " + label + ")", x -> x.places(n, label));
    }

    private static Call takes(int n, int label) {
        return new Call("takes(" + n + ", " + label + ")", x -> x.takes(n, label));
    }

    private static Call undo() {
        return new Call("undo()", JumpLengths::undo);
    }

    private static Call way(int way, int what) {
        return new Call("way(" + way + ", " + what + ")", x -> x.way(way, what));
    }

    private static Call lies(int way, int k, int what) {
        return new Call("lies(" + way + ", " + k + ", " + what + ")", x -> x.lies(way, k, what));
    }

    private static Call code(int way, int i) {
        return new Call("code(" + way + ", " + i + ")", x -> x.code(way, i));
    }

    private static Call origin(int way, int i) {
        return new Call("origin(" + way + ", " + i + ")", x -> x.origin(way, i));
    }

    private static Call narrow() {
        return new Call("narrow()", JumpLengths::narrow);
    }

    private static Call fewest(int what) {
        return new Call("fewest(" + what + ")", x -> x.fewest(what));
    }

    private static Call odds(int k, int by, int what) {
        return new Call("odds(" + k + ", " + by + ", " + what + ")", x -> x.odds(k, by, what));
    }

    private static Call keep(int image) {
        return new Call("keep(" + image + ")", x -> x.keep(image));
    }

    private static Call back(int image) {
        return new Call("back(" + image + ")", x -> x.back(image));
    }

    private static Call count(int what) {
        return new Call("count(" + what + ")", x -> x.count(what));
    }

    // ---- states

    private static final State NEW = new State("", List.of(), "", -1);

    private static final String SOURCE = "r9;o3;l a;j a;a8;c b;i;l b;j b;i;o1;l h;";

    private static final State TOLD = new State(SOURCE, List.of(), "", -1);

    private static final State DONE = new State(SOURCE,
            List.of(sizes(0, 60), pins(2), places(0, 0), keep(1), places(1, 7), takes(0, 0), sizes(9, 2)), "o7;l", 4);

    private static final State FULL_OF_ALL = new State(
            "l a;l b;l h;" + "j a;j b;".repeat(5) + "c a;c b;".repeat(3) + "i;i;i;a8;" + "o1;".repeat(9),
            List.of(pins(3), places(0, 0), places(0, 7), places(1, 1), sizes(31, 9), keep(0), places(1, 0), sizes(31, 2),
                    pins(4), places(2, 7), pins(3), keep(1), places(2, 0), sizes(23, 4)),
            "o1;".repeat(33) + " ".repeat(51), 96);

    private static List<Call> callsTo(State state) {
        List<Call> calls = new ArrayList<>();
        for (char c : state.source.toCharArray()) calls.add(type(c));
        if (!state.source.isEmpty()) calls.add(source());
        calls.addAll(state.deeds);
        for (char c : state.typed.toCharArray()) calls.add(type(c));
        return calls;
    }

    /** Rows of later calls, each for an object of its own, which together show all that there is. */
    private static List<List<Call>> laterCalls(State state) {
        List<List<Call>> rows = new ArrayList<>();
        rows.add(looks(state));
        rows.add(lengths(state));
        int bytes = sizeOf(state);
        for (int way : WAYS) {
            List<Call> lying = new ArrayList<>(), coded = new ArrayList<>(), origins = new ArrayList<>();
            for (int k = 0; k < state.items(); k++) for (int what = 0; what < 3; what++) lying.add(lies(way, k, what));
            for (int i = 0; i < bytes; i++) coded.add(code(way, i));
            for (int i = 0; i < bytes; i++) origins.add(origin(way, i));
            rows.add(lying);
            rows.add(coded);
            rows.add(origins);
        }
        for (int undone = 1; undone <= 11; undone++) rows.add(undoneThenLooks(state, undone));
        for (int image = 0; image < 2; image++) {
            rows.add(followed(List.of(back(image)), looks(state)));
            rows.add(followed(List.of(back(image)), lengths(state)));
            rows.add(followed(List.of(back(image)), undoneThenLooks(state, 11)));
        }
        rows.add(followed(List.of(source()), looks(state)));
        rows.add(followed(List.of(type(' '), type('a'), type(';'), source()), looks(state)));
        rows.add(followed(List.of(clear(), type('i'), type(';'), source()), looks(state)));
        return rows;
    }

    private static int sizeOf(State state) {
        JumpLengths x = new JumpLengths();
        answers(x, callsTo(state));
        return x.way(0, 0);
    }

    private static List<Call> looks(State state) {
        List<Call> looks = new ArrayList<>();
        for (int what = 0; what < 9; what++) looks.add(count(what));
        for (int k = 0; k < state.items(); k++) for (int what = 0; what < 3; what++) looks.add(item(k, what));
        return looks;
    }

    private static List<Call> lengths(State state) {
        List<Call> lengths = new ArrayList<>();
        for (int way : WAYS) for (int what = 0; what < 6; what++) lengths.add(way(way, what));
        lengths.addAll(List.of(narrow(), fewest(0), fewest(1)));
        String sorts = state.sorts();
        for (int k = 0; k < sorts.length(); k++) {
            if (sorts.charAt(k) == 'j') lengths.addAll(List.of(odds(k, 3, 0), odds(k, 3, 1)));
        }
        return lengths;
    }

    private static List<Call> undoneThenLooks(State state, int undone) {
        List<Call> calls = new ArrayList<>();
        for (int n = 0; n < undone; n++) calls.add(undo());
        calls.addAll(looks(state));
        return calls;
    }

    private static List<Call> followed(List<Call> first, List<Call> then) {
        List<Call> calls = new ArrayList<>(first);
        calls.addAll(then);
        return calls;
    }

    private static int[] answers(JumpLengths x, List<Call> calls) {
        return calls.stream().mapToInt(call -> call.made.applyAsInt(x)).toArray();
    }

    // ---- what is checked

    private record Refused(Call call, int answer) { }

    /** None of the calls changes anything; those of an answer that is due are refused with it. */
    private static void changeNothing(State state, List<Refused> refused) {
        List<Call> before = callsTo(state);
        for (List<Call> later : laterCalls(state)) {
            if (before.size() + 1 + later.size() > CALLS_MOST) fail("too many calls of one object: " + (before.size() + 1 + later.size()));
            JumpLengths without = new JumpLengths();
            answers(without, before);
            int[] wants = answers(without, later);
            for (Refused one : refused) {
                JumpLengths with = new JumpLengths();
                answers(with, before);
                due(one.call.name, one.call.made.applyAsInt(with), one.answer);
                int[] gots = answers(with, later);
                for (int n = 0; n < wants.length; n++) {
                    due(later.get(n).name + " behind " + one.call.name, gots[n], wants[n]);
                }
            }
        }
    }

    private static List<Refused> all(int answer, List<Call> calls) {
        List<Refused> refused = new ArrayList<>();
        for (Call call : calls) refused.add(new Refused(call, answer));
        return refused;
    }

    private static List<Refused> wrongItems(State state) {
        List<Call> bad = new ArrayList<>();
        List<Call> no = new ArrayList<>();
        for (int k : new int[] {-1, state.items(), 32, LOWEST, HIGHEST}) {
            bad.addAll(List.of(item(k, 0), sizes(k, 5), pins(k), odds(k, 5, 0)));
            no.add(lies(0, k, 0));
        }
        String sorts = state.sorts();
        for (int k = 0; k < sorts.length(); k++) {
            if (sorts.charAt(k) != 'o') bad.add(sizes(k, 5));
            if (sorts.charAt(k) != 'j') bad.addAll(List.of(pins(k), odds(k, 5, 1)));
        }
        List<Refused> refused = all(BAD, bad);
        refused.addAll(all(NO, no));
        return refused;
    }

    private static List<Refused> wrongNumbers(State state) {
        List<Call> bad = new ArrayList<>();
        List<Call> no = new ArrayList<>();
        for (int c : new int[] {-1, 256, LOWEST, HIGHEST}) bad.add(type(c));
        for (int number : new int[] {-1, 61, LOWEST, HIGHEST}) {
            bad.addAll(List.of(item(0, number), sizes(0, number), way(number, 0), way(0, number), code(number, 0), origin(number, 0)));
            bad.addAll(List.of(fewest(number), odds(2, number, 0), odds(2, 1, number), keep(number), back(number), count(number)));
            no.addAll(List.of(lies(number, 0, 0), lies(0, 0, number)));
        }
        int bytes = sizeOf(state);
        for (int i : new int[] {-1, bytes, LOWEST, HIGHEST}) bad.addAll(List.of(code(0, i), origin(0, i)));
        bad.addAll(List.of(item(0, 3), sizes(0, 0), way(3, 0), way(0, 6), code(3, 0), origin(3, 0), fewest(2), odds(2, 11, 0)));
        bad.addAll(List.of(odds(2, 1, 2), keep(2), back(2), count(9)));
        no.addAll(List.of(lies(3, 0, 0), lies(0, 0, 3)));
        List<Refused> refused = all(BAD, bad);
        refused.addAll(all(NO, no));
        return refused;
    }

    private static List<Refused> wrongIslands(State state) {
        List<Call> bad = new ArrayList<>();
        for (int n : new int[] {-1, state.spots(), 3, LOWEST, HIGHEST}) bad.addAll(List.of(places(n, 0), takes(n, 0)));
        for (int label : new int[] {-1, 8, LOWEST, HIGHEST}) bad.addAll(List.of(places(0, label), takes(0, label)));
        for (int label = 0; label < 8; label++) {
            if (!state.hasLabel(label)) bad.addAll(List.of(places(0, label), takes(0, label)));
        }
        return all(BAD, bad);
    }

    private static void wrongCallsChangeNothing(State state) {
        says("Terms", "Refused, and nothing changes, the first of these: BAD");
        changeNothing(state, wrongItems(state));
        changeNothing(state, wrongNumbers(state));
        changeNothing(state, wrongIslands(state));
        says("Promise 4", "-10 less FAULT: nothing changes.");
        if (state.fault >= 0) changeNothing(state, all(-10 - state.fault, List.of(source())));
    }

    private static void wrongCallsOfANewObject() {
        wrongCallsChangeNothing(NEW);
    }

    private static void wrongCallsOfASource() {
        wrongCallsChangeNothing(TOLD);
    }

    private static void wrongCallsBehindDeeds() {
        wrongCallsChangeNothing(DONE);
    }

    private static void wrongCallsWhereAllIsFull() {
        wrongCallsChangeNothing(FULL_OF_ALL);
    }

    private static void whatStateRefusesChangesNothing() {
        says("Terms", "STATE (as told)");
        changeNothing(NEW, all(STATE, List.of(undo(), back(0), back(1))));
        changeNothing(TOLD, all(STATE, List.of(undo(), back(0), back(1), sizes(0, 3), sizes(9, 1), takes(0, 0), takes(1, 7))));
        changeNothing(DONE, all(STATE, List.of(back(0), sizes(0, 60), sizes(9, 2), takes(0, 0), takes(0, 7), places(1, 7))));
        changeNothing(FULL_OF_ALL, all(STATE, List.of(sizes(31, 2), sizes(24, 1), takes(0, 1), takes(1, 7),
                places(0, 0), places(0, 7), places(1, 1), places(1, 0), places(2, 7), places(2, 0))));
    }

    private static void whatIsFullChangesNothing() {
        says("Promise 2", "BAD; FULL.");
        changeNothing(FULL_OF_ALL, all(FULL, List.of(type(0), type(' '), type('o'), type(';'), type(255))));
        says("Promise 8", "FULL.");
        changeNothing(FULL_OF_ALL, all(FULL, List.of(places(0, 1), places(1, 7), places(2, 1))));
    }

    private static void whatIsAskedChangesNothing(State state) {
        says("Terms", "(Nothing is changed.)");
        List<Call> asked = followed(looks(state), lengths(state));
        for (int way : WAYS) asked.addAll(List.of(code(way, 0), origin(way, 0), lies(way, 0, 0)));
        JumpLengths x = new JumpLengths();
        answers(x, callsTo(state));
        List<Refused> calls = new ArrayList<>();
        for (Call call : asked) calls.add(new Refused(call, call.made.applyAsInt(x)));
        changeNothing(state, calls);
    }

    private static void whatIsAskedOfANewObject() {
        whatIsAskedChangesNothing(NEW);
    }

    private static void whatIsAskedBehindDeeds() {
        whatIsAskedChangesNothing(DONE);
    }

    private static void whatIsAskedWhereAllIsFull() {
        whatIsAskedChangesNothing(FULL_OF_ALL);
    }
}
