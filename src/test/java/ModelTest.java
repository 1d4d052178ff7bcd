import java.math.BigInteger;
import java.util.ArrayDeque;
import java.util.ArrayList;
import java.util.Arrays;
import java.util.Deque;
import java.util.List;
import java.util.Random;
import java.util.TreeSet;
import java.util.regex.Matcher;
import java.util.regex.Pattern;

/**
 * Random runs of calls, each answer held against a slow model of the document that is written
 * another way than the class: whole snapshots to undo, a list of code bytes, sets of longs.
 */
public final class ModelTest {
    private static final int RUNS = 1500;
    private static final int CALLS = 512;

    public static void main(String[] args) {
        int wrong = 0;
        for (int run = 0; run < RUNS && wrong < 20; run++) wrong += oneRun(run);
        System.out.println(wrong == 0 ? "the model agrees" : wrong + " runs disagree with the model");
        if (wrong != 0) System.exit(1);
    }

    /** A run ends at its first wrong answer: what comes behind it says nothing new. */
    private static int oneRun(int seed) {
        Random random = new Random(seed);
        Caller caller = new Caller();
        StringBuilder shown = new StringBuilder();
        Deque<Integer> typing = new ArrayDeque<>();
        for (int n = 0; n < CALLS; n++) {
            int[] call = nextCall(random, typing, caller.model, n);
            long got = caller.ofClass(call);
            long want = caller.ofModel(call);
            if (call[0] == 0) shown.append((char) call[1]);
            else shown.append("\n  ").append(Arrays.toString(call)).append(" -> ").append(got).append("\n  ");
            if (got != want) {
                System.out.println("run " + seed + ", call " + n + ":" + shown + "\n  due is " + want);
                return 1;
            }
        }
        return 0;
    }

    private static int[] nextCall(Random random, Deque<Integer> typing, Model model, int n) {
        if (!typing.isEmpty()) {
            int c = typing.poll();
            if (c == SOURCE) return new int[] {2};
            if (c == CLEAR) return new int[] {1};
            return new int[] {0, c};
        }
        if (n == 0 || random.nextInt(120) == 0) {
            if (random.nextInt(4) != 0) typing.add(CLEAR);
            boolean valid = n == 0 || random.nextInt(5) != 0;
            String text = Texts.make(random);
            if (!valid) text = Texts.spoil(random, text);
            for (char c : text.toCharArray()) typing.add((int) c);
            typing.add(SOURCE);
            if (random.nextInt(8) == 0) typing.add(SOURCE);
        }
        int items = model.items.size();
        int k = random.nextInt(12) == 0 ? wild(random) : random.nextInt(items + 1) - (random.nextInt(20) == 0 ? 1 : 0);
        int jump = model.anyOf(Sort.JUMP, random, k);
        int op = model.anyOf(Sort.OP, random, k);
        switch (random.nextInt(24)) {
            case 0: return new int[] {3, k, random.nextInt(5) - 1};
            case 1: case 2: return new int[] {4, op, random.nextInt(8) == 0 ? wild(random) : random.nextInt(63) - 1};
            case 3: case 4: return new int[] {5, jump};
            case 5: case 6: return new int[] {6, spot(random, model), label(random, model)};
            case 7: return new int[] {7, spot(random, model), label(random, model)};
            case 8: return new int[] {8};
            case 9: case 10: case 11: case 12: return new int[] {9, someWay(random), random.nextInt(8) - 1};
            case 13: case 14: return new int[] {10, someWay(random), k, random.nextInt(5) - 1};
            case 15: case 16: return new int[] {11, someWay(random), someByte(random, model)};
            case 17: case 18: return new int[] {12, someWay(random), someByte(random, model)};
            case 19: return new int[] {13};
            case 20: return new int[] {14, random.nextInt(12) == 0 ? wild(random) : random.nextInt(2)};
            case 21: return new int[] {15, jump, random.nextInt(13) - 1, random.nextInt(12) == 0 ? wild(random) : random.nextInt(2)};
            case 22: return new int[] {random.nextBoolean() ? 16 : 17, random.nextInt(10) == 0 ? wild(random) : random.nextInt(2)};
            default: return new int[] {18, random.nextInt(11) - 1};
        }
    }

    private static final int SOURCE = 1000, CLEAR = 1001;

    private static int wild(Random random) {
        int[] few = {Integer.MIN_VALUE, -1, 2, 3, 8, 32, 33, 61, 128, 255, 256, 1000000, Integer.MAX_VALUE};
        return few[random.nextInt(few.length)];
    }

    private static int someWay(Random random) {
        return random.nextInt(20) == 0 ? wild(random) : random.nextInt(3);
    }

    private static int spot(Random random, Model model) {
        return random.nextInt(12) == 0 ? wild(random) : random.nextInt(Math.max(1, model.allOf(Sort.SPOT).size()));
    }

    private static int label(Random random, Model model) {
        List<Integer> labels = model.allOf(Sort.LABEL);
        if (random.nextInt(12) == 0) return wild(random);
        if (labels.isEmpty() || random.nextInt(12) == 0) return random.nextInt(9);
        return model.items.get(labels.get(random.nextInt(labels.size()))).value;
    }

    private static int someByte(Random random, Model model) {
        if (random.nextInt(20) == 0) return wild(random);
        return random.nextInt(model.codeOf(model.wayLongs(0).longs()).size() + 2) - 1;
    }

    /** Texts of sources, mostly right ones with much that is near its edge. */
    private static final class Texts {
        static String make(Random random) {
            StringBuilder text = new StringBuilder();
            int labels = 1 + random.nextInt(random.nextBoolean() ? 3 : 8);
            if (random.nextInt(4) != 0) text.append("r").append(gap(random)).append(reach(random)).append(end(random));
            List<String> items = new ArrayList<>();
            for (int label = 0; label < labels; label++) items.add("l " + gap(random) + (char) ('a' + label));
            int jumps = random.nextInt(11), calls = random.nextInt(7), spots = random.nextInt(4);
            int ops = random.nextInt(9), aligns = random.nextInt(5);
            // Few jumps and calls leave room in THE TEXT, many make islands and rounds: both are wanted.
            if (random.nextBoolean()) calls = Math.min(calls, 2);
            if (random.nextInt(3) == 0) jumps = Math.min(jumps, 3);
            int most = random.nextInt(3) == 0 ? 60 : random.nextInt(2) == 0 ? 20 : 8;
            for (int n = 0; n < jumps; n++) items.add(random.nextInt(items.size() + 1), "j " + (char) ('a' + random.nextInt(labels)));
            for (int n = 0; n < calls; n++) items.add(random.nextInt(items.size() + 1), "c " + (char) ('a' + random.nextInt(labels)));
            for (int n = 0; n < spots; n++) items.add(random.nextInt(items.size() + 1), "i");
            for (int n = 0; n < ops; n++) items.add(random.nextInt(items.size() + 1), "o" + gap(random) + (1 + random.nextInt(most)));
            for (int n = 0; n < aligns; n++) items.add(random.nextInt(items.size() + 1), "a" + gap(random) + (2 << random.nextInt(4)));
            for (String item : items) text.append(item).append(gap(random)).append(end(random));
            return text.toString();
        }

        static String spoil(Random random, String text) {
            String letters = "oljacirz 0123456789;;;?A";
            StringBuilder spoilt = new StringBuilder(text);
            int times = 1 + random.nextInt(2);
            for (int n = 0; n < times && spoilt.length() > 0; n++) {
                int place = random.nextInt(spoilt.length());
                char other = random.nextInt(15) == 0 ? (char) random.nextInt(256) : letters.charAt(random.nextInt(letters.length()));
                switch (random.nextInt(5)) {
                    case 0: spoilt.setCharAt(place, other); break;
                    case 1: spoilt.insert(place, other); break;
                    case 2: spoilt.deleteCharAt(place); break;
                    case 3: spoilt.setLength(place); break;
                    default: spoilt.append(spoilt.substring(place)); break;
                }
            }
            return spoilt.toString();
        }

        private static String gap(Random random) {
            return random.nextInt(12) == 0 ? " " : "";
        }

        private static String end(Random random) {
            return random.nextInt(15) == 0 ? "; " : ";";
        }

        private static int reach(Random random) {
            return random.nextInt(4) == 0 ? 4 + random.nextInt(124) : 4 + random.nextInt(30);
        }
    }

    /** The same call on the class and on the model. */
    private static final class Caller {
        final JumpLengths object = new JumpLengths();
        final Model model = new Model();

        long ofClass(int[] a) {
            switch (a[0]) {
                case 0: return object.type(a[1]);
                case 1: return object.clear();
                case 2: return object.source();
                case 3: return object.item(a[1], a[2]);
                case 4: return object.sizes(a[1], a[2]);
                case 5: return object.pins(a[1]);
                case 6: return object.places(a[1], a[2]);
                case 7: return object.takes(a[1], a[2]);
                case 8: return object.undo();
                case 9: return object.way(a[1], a[2]);
                case 10: return object.lies(a[1], a[2], a[3]);
                case 11: return object.code(a[1], a[2]);
                case 12: return object.origin(a[1], a[2]);
                case 13: return object.narrow();
                case 14: return object.fewest(a[1]);
                case 15: return object.odds(a[1], a[2], a[3]);
                case 16: return object.keep(a[1]);
                case 17: return object.back(a[1]);
                default: return object.count(a[1]);
            }
        }

        long ofModel(int[] a) {
            switch (a[0]) {
                case 0: return model.type(a[1]);
                case 1: return model.clear();
                case 2: return model.source();
                case 3: return model.item(a[1], a[2]);
                case 4: return model.sizes(a[1], a[2]);
                case 5: return model.pins(a[1]);
                case 6: return model.places(a[1], a[2]);
                case 7: return model.takes(a[1], a[2]);
                case 8: return model.undo();
                case 9: return model.way(a[1], a[2]);
                case 10: return model.lies(a[1], a[2], a[3]);
                case 11: return model.code(a[1], a[2]);
                case 12: return model.origin(a[1], a[2]);
                case 13: return model.narrow();
                case 14: return model.fewest(a[1]);
                case 15: return model.odds(a[1], a[2], a[3]);
                case 16: return model.keep(a[1]);
                case 17: return model.back(a[1]);
                default: return model.count(a[1]);
            }
        }
    }

    private enum Sort { OP, LABEL, JUMP, ALIGN, CALL, SPOT }

    private record Item(Sort sort, int value) { }

    private record Island(int spot, int label) implements Comparable<Island> {
        public int compareTo(Island other) {
            return Integer.compare(8 * spot + label, 8 * other.spot + other.label);
        }
    }

    private record State(List<Integer> sizes, TreeSet<Integer> pinned, TreeSet<Island> islands) {
        State copy() {
            return new State(new ArrayList<>(sizes), new TreeSet<>(pinned), new TreeSet<>(islands));
        }
    }

    private record Kept(State state, List<State> past) { }

    private record Found(TreeSet<Integer> longs, int rounds) { }

    private record Piece(int value, int item) { }

    /** A source that is wrong at a place. */
    private static final class Fault extends RuntimeException {
        private static final long serialVersionUID = 1L;
        final int place;

        Fault(int place) {
            super("fault");
            this.place = place;
        }
    }

    /** JUMPS and CALLS are known by their items' numbers here, not by their own. */
    private static final class Model {
        private static final int BAD = -1, STATE = -2, FULL = -3, NONE = -9, NO = -1000000;

        String text = "";
        List<Item> items = new ArrayList<>();
        int reach = 20;
        State now = new State(new ArrayList<>(), new TreeSet<>(), new TreeSet<>());
        List<State> past = new ArrayList<>();
        Kept[] images = new Kept[2];

        int anyOf(Sort sort, Random random, int otherwise) {
            List<Integer> all = allOf(sort);
            return all.isEmpty() || random.nextInt(8) == 0 ? otherwise : all.get(random.nextInt(all.size()));
        }

        List<Integer> allOf(Sort sort) {
            List<Integer> all = new ArrayList<>();
            for (int k = 0; k < items.size(); k++) if (items.get(k).sort == sort) all.add(k);
            return all;
        }

        int labelItem(int label) {
            return items.indexOf(new Item(Sort.LABEL, label));
        }

        int type(int c) {
            if (c < 0 || c > 255) return BAD;
            if (text.length() == 150) return FULL;
            text += (char) c;
            return text.length();
        }

        int clear() {
            int had = text.length();
            text = "";
            return had;
        }

        int source() {
            int newReach;
            List<Item> read = new ArrayList<>();
            try {
                newReach = read(read);
            } catch (Fault fault) {
                return -10 - fault.place;
            }
            items = read;
            reach = newReach;
            List<Integer> told = new ArrayList<>();
            for (Item item : items) told.add(item.value);
            now = new State(told, new TreeSet<>(), new TreeSet<>());
            past = new ArrayList<>();
            images = new Kept[2];
            text = "";
            return items.size();
        }

        private static final Pattern TOKEN = Pattern.compile(" *([a-z]+|[0-9]+|;|$|[\\x00-\\xff])", Pattern.DOTALL);

        private int read(List<Item> into) {
            List<String> words = new ArrayList<>();
            List<Integer> starts = new ArrayList<>();
            Matcher matcher = TOKEN.matcher(text);
            while (matcher.find()) {
                words.add(matcher.group(1));
                starts.add(matcher.start(1));
                if (matcher.group(1).isEmpty()) break;
            }
            int found = 20, at = 0;
            while (!words.get(at).isEmpty()) {
                String word = words.get(at);
                int sort = "oljaci".indexOf(word);
                boolean isReach = word.equals("r");
                boolean stands = word.length() == 1 && (isReach ? at == 0 : sort >= 0 && roomIn(into, Sort.values()[sort]));
                if (!stands) throw new Fault(starts.get(at));
                at++;
                int value = 0;
                if (!word.equals("i")) {
                    value = operand(into, word, words.get(at));
                    if (value < 0) throw new Fault(starts.get(at));
                    at++;
                }
                if (!words.get(at).equals(";")) throw new Fault(starts.get(at));
                at++;
                if (isReach) found = value;
                else into.add(new Item(Sort.values()[sort], value));
            }
            for (Item item : into) {
                boolean goes = item.sort == Sort.JUMP || item.sort == Sort.CALL;
                if (goes && !into.contains(new Item(Sort.LABEL, item.value))) throw new Fault(text.length());
            }
            return found;
        }

        private boolean roomIn(List<Item> into, Sort sort) {
            int most = sort == Sort.JUMP ? 10 : sort == Sort.CALL ? 6 : sort == Sort.SPOT ? 3 : 32;
            return into.size() < 32 && into.stream().filter(item -> item.sort == sort).count() < most;
        }

        private int operand(List<Item> into, String word, String token) {
            if ("ljc".contains(word)) {
                if (!token.matches("[a-h]")) return -1;
                int label = token.charAt(0) - 'a';
                return word.equals("l") && into.contains(new Item(Sort.LABEL, label)) ? -1 : label;
            }
            if (!token.matches("0|[1-9][0-9]{0,2}")) return -1;
            int number = Integer.parseInt(token);
            if (word.equals("o")) return number >= 1 && number <= 60 ? number : -1;
            if (word.equals("r")) return number >= 4 && number <= 127 ? number : -1;
            return List.of(2, 4, 8, 16).contains(number) ? number : -1;
        }

        int item(int k, int what) {
            if (k < 0 || k >= items.size() || what < 0 || what > 2) return BAD;
            Item item = items.get(k);
            if (what == 0) return item.sort.ordinal();
            if (what == 2) return now.pinned.contains(k) ? 1 : 0;
            if (item.sort == Sort.OP) return now.sizes.get(k);
            if (item.sort == Sort.SPOT) return islandsOf(k).size();
            return item.value;
        }

        private List<Island> islandsOf(int k) {
            int spot = allOf(Sort.SPOT).indexOf(k);
            List<Island> here = new ArrayList<>();
            for (Island island : now.islands) if (island.spot == spot) here.add(island);
            return here;
        }

        private void remember() {
            past.add(now.copy());
            if (past.size() > 10) past.remove(0);
        }

        int sizes(int k, int size) {
            if (k < 0 || k >= items.size() || items.get(k).sort != Sort.OP || size < 1 || size > 60) return BAD;
            int till = now.sizes.get(k);
            if (till == size) return STATE;
            remember();
            now.sizes.set(k, size);
            return till;
        }

        int pins(int k) {
            if (k < 0 || k >= items.size() || items.get(k).sort != Sort.JUMP) return BAD;
            remember();
            if (now.pinned.remove(k)) return 0;
            now.pinned.add(k);
            return 1;
        }

        int places(int n, int label) {
            if (n < 0 || n >= allOf(Sort.SPOT).size() || labelItem(label) < 0) return BAD;
            if (now.islands.contains(new Island(n, label))) return STATE;
            if (now.islands.size() == 6) return FULL;
            remember();
            now.islands.add(new Island(n, label));
            return now.islands.size();
        }

        int takes(int n, int label) {
            if (n < 0 || n >= allOf(Sort.SPOT).size() || labelItem(label) < 0) return BAD;
            if (!now.islands.contains(new Island(n, label))) return STATE;
            remember();
            now.islands.remove(new Island(n, label));
            return now.islands.size();
        }

        int undo() {
            if (past.isEmpty()) return STATE;
            now = past.remove(past.size() - 1);
            return past.size();
        }

        /** Where each item begins, and last the size of all. */
        List<Integer> lay(TreeSet<Integer> longs) {
            List<Integer> at = new ArrayList<>(List.of(0));
            for (int k = 0; k < items.size(); k++) {
                int place = at.get(k);
                int value = items.get(k).value;
                switch (items.get(k).sort) {
                    case OP -> place += now.sizes.get(k);
                    case LABEL -> { }
                    case JUMP -> place += longs.contains(k) ? 5 : 2;
                    case ALIGN -> { while (place % value != 0) place++; }
                    case CALL -> place += 2;
                    case SPOT -> place += 5 * islandsOf(k).size();
                }
                at.add(place);
            }
            return at;
        }

        int far(List<Integer> at, int k) {
            return at.get(labelItem(items.get(k).value)) - at.get(k + 1);
        }

        boolean reaches(int far) {
            return -reach - 1 <= far && far <= reach;
        }

        TreeSet<Integer> tooFar(TreeSet<Integer> longs) {
            List<Integer> at = lay(longs);
            TreeSet<Integer> tooFar = new TreeSet<>();
            for (int k : allOf(Sort.JUMP)) if (!longs.contains(k) && !reaches(far(at, k))) tooFar.add(k);
            return tooFar;
        }

        Found grown() {
            TreeSet<Integer> longs = new TreeSet<>(now.pinned);
            int rounds = 0;
            while (longs.addAll(tooFar(longs))) rounds++;
            return new Found(longs, rounds);
        }

        Found shrunk() {
            TreeSet<Integer> longs = new TreeSet<>(allOf(Sort.JUMP));
            TreeSet<Integer> held = new TreeSet<>();
            for (int rounds = 0; ; rounds++) {
                List<Integer> at = lay(longs);
                TreeSet<Integer> turn = new TreeSet<>();
                for (int k : longs) {
                    boolean isBack = labelItem(items.get(k).value) < k;
                    if (!now.pinned.contains(k) && !held.contains(k) && reaches(far(at, k) + (isBack ? 3 : 0))) turn.add(k);
                }
                if (turn.isEmpty()) return new Found(longs, rounds);
                longs.removeAll(turn);
                for (TreeSet<Integer> more = tooFar(longs); !more.isEmpty(); more = tooFar(longs)) {
                    longs.addAll(more);
                    held.addAll(more);
                }
            }
        }

        Found least() {
            List<Integer> jumps = allOf(Sort.JUMP);
            TreeSet<Integer> best = null;
            long bestRank = Long.MAX_VALUE;
            for (int bits = 0; bits < 1 << jumps.size(); bits++) {
                TreeSet<Integer> longs = new TreeSet<>();
                for (int n = 0; n < jumps.size(); n++) if ((bits >> n & 1) == 1) longs.add(jumps.get(n));
                if (!longs.containsAll(now.pinned) || !tooFar(longs).isEmpty()) continue;
                long rank = (lay(longs).get(items.size()) * 100L + longs.size()) * 2000 + bits;
                if (rank < bestRank) {
                    best = longs;
                    bestRank = rank;
                }
            }
            return new Found(best, 0);
        }

        private State foundFor = null;
        private List<Item> foundIn = null;
        private final Found[] found = new Found[3];

        Found wayLongs(int way) {
            if (foundFor == null || foundIn != items || !foundFor.equals(now)) {
                foundFor = now.copy();
                foundIn = items;
                Arrays.fill(found, null);
            }
            if (found[way] == null) found[way] = way == 0 ? grown() : way == 1 ? shrunk() : least();
            return found[way];
        }

        /** How far a call goes by its label or an island; null if it is not served. */
        private Integer served(List<Integer> at, int k) {
            if (reaches(far(at, k))) return far(at, k);
            List<Integer> spots = allOf(Sort.SPOT);
            for (Island island : now.islands) {
                if (island.label != items.get(k).value) continue;
                int spotItem = spots.get(island.spot);
                int begins = at.get(spotItem) + 5 * islandsOf(spotItem).indexOf(island);
                if (reaches(begins - at.get(k + 1))) return begins - at.get(k + 1);
            }
            return null;
        }

        List<Piece> codeOf(TreeSet<Integer> longs) {
            List<Integer> at = lay(longs);
            List<Piece> code = new ArrayList<>();
            for (int k = 0; k < items.size(); k++) {
                switch (items.get(k).sort) {
                    case JUMP -> {
                        code.add(new Piece(longs.contains(k) ? 2 : 1, k));
                        number(code, far(at, k), longs.contains(k) ? 4 : 1, k);
                    }
                    case CALL -> {
                        Integer far = served(at, k);
                        code.add(new Piece(3, k));
                        number(code, far == null ? 0 : far, 1, k);
                    }
                    case SPOT -> {
                        for (Island island : islandsOf(k)) {
                            code.add(new Piece(4, k));
                            number(code, at.get(labelItem(island.label)) - (code.size() + 4), 4, k);
                        }
                    }
                    default -> {
                        int value = items.get(k).sort == Sort.OP ? 16 : 0;
                        while (code.size() < at.get(k + 1)) code.add(new Piece(value, k));
                    }
                }
            }
            return code;
        }

        private static void number(List<Piece> code, int number, int bytes, int k) {
            long rest = number & 0xffffffffL;
            for (int n = 0; n < bytes; n++) {
                code.add(new Piece((int) (rest % 256), k));
                rest /= 256;
            }
        }

        int way(int way, int what) {
            if (way < 0 || way > 2 || what < 0 || what > 5) return BAD;
            Found found = wayLongs(way);
            List<Integer> at = lay(found.longs);
            int size = at.get(items.size());
            int bits = 0;
            switch (what) {
                case 0: return size;
                case 1:
                    for (int k : found.longs) bits |= 1 << allOf(Sort.JUMP).indexOf(k);
                    return bits;
                case 2: return found.rounds;
                case 3: return size - lay(wayLongs(2).longs).get(items.size());
                case 4:
                    for (int k : allOf(Sort.CALL)) if (served(at, k) != null) bits |= 1 << allOf(Sort.CALL).indexOf(k);
                    return bits;
                default: return codeOf(found.longs).stream().mapToInt(Piece::value).sum();
            }
        }

        int lies(int way, int k, int what) {
            if (way < 0 || way > 2 || what < 0 || what > 2 || k < 0 || k >= items.size()) return NO;
            List<Integer> at = lay(wayLongs(way).longs);
            if (what == 0) return at.get(k);
            if (what == 1) return at.get(k + 1) - at.get(k);
            return items.get(k).sort == Sort.JUMP || items.get(k).sort == Sort.CALL ? far(at, k) : 0;
        }

        int code(int way, int i) {
            if (way < 0 || way > 2) return BAD;
            List<Piece> code = codeOf(wayLongs(way).longs);
            return i < 0 || i >= code.size() ? BAD : code.get(i).value;
        }

        int origin(int way, int i) {
            if (way < 0 || way > 2) return BAD;
            List<Piece> code = codeOf(wayLongs(way).longs);
            return i < 0 || i >= code.size() ? BAD : code.get(i).item;
        }

        int narrow() {
            int told = reach;
            int answer = NONE;
            for (reach = 127; reach >= 4; reach--) if (grown().longs.equals(now.pinned)) answer = reach;
            reach = told;
            return answer;
        }

        int fewest(int what) {
            if (what < 0 || what > 1) return BAD;
            State told = now;
            now = told.copy();
            long answer = Long.MAX_VALUE;
            int bits = 8 * allOf(Sort.SPOT).size();
            for (int a = -1; a < bits; a++) {
                for (int b = a == -1 ? -1 : a + 1; b < bits; b = b == -1 ? bits : b + 1) {
                    for (int c = b == -1 ? -1 : b + 1; c < bits; c = c == -1 ? bits : c + 1) {
                        answer = Math.min(answer, rankOf(a, b, c));
                    }
                    if (b != -1) answer = Math.min(answer, rankOf(a, b, -1));
                }
                if (a != -1) answer = Math.min(answer, rankOf(a, -1, -1));
            }
            now = told;
            if (answer == Long.MAX_VALUE) return NONE;
            return (int) (what == 0 ? answer >> 32 : answer);
        }

        /** How many above which, of these islands (-1: none), if they serve all. */
        private long rankOf(int... islands) {
            long many = 0, bits = 0;
            now.islands.clear();
            for (int bit : islands) {
                if (bit < 0) continue;
                if (labelItem(bit % 8) < 0) return Long.MAX_VALUE;
                now.islands.add(new Island(bit / 8, bit % 8));
                many++;
                bits |= 1L << bit;
            }
            List<Integer> at = lay(grown().longs);
            for (int k : allOf(Sort.CALL)) if (served(at, k) == null) return Long.MAX_VALUE;
            return many << 32 | bits;
        }

        int odds(int k, int x, int what) {
            if (k < 0 || k >= items.size() || items.get(k).sort != Sort.JUMP) return BAD;
            if (x < 0 || x > 10 || what < 0 || what > 1) return BAD;
            List<Integer> ops = allOf(Sort.OP);
            if (ops.size() > 6) ops = ops.subList(0, 6);
            State told = now;
            BigInteger upper = chance(told.copy(), ops, 0, k, x);
            now = told;
            BigInteger lower = BigInteger.TEN.pow(ops.size());
            BigInteger common = upper.gcd(lower);
            return (what == 0 ? upper : lower).divide(common).intValueExact();
        }

        private BigInteger chance(State state, List<Integer> ops, int n, int k, int x) {
            if (n == ops.size()) {
                now = state;
                return grown().longs.contains(k) ? BigInteger.ONE : BigInteger.ZERO;
            }
            State longer = state.copy();
            longer.sizes.set(ops.get(n), state.sizes.get(ops.get(n)) + 1);
            return chance(longer, ops, n + 1, k, x).multiply(BigInteger.valueOf(x))
                    .add(chance(state, ops, n + 1, k, x).multiply(BigInteger.valueOf(10 - x)));
        }

        int keep(int image) {
            if (image < 0 || image > 1) return BAD;
            images[image] = new Kept(now.copy(), copies(past));
            return now.islands.size();
        }

        int back(int image) {
            if (image < 0 || image > 1) return BAD;
            if (images[image] == null) return STATE;
            now = images[image].state.copy();
            past = copies(images[image].past);
            return now.islands.size();
        }

        private static List<State> copies(List<State> states) {
            List<State> copies = new ArrayList<>();
            for (State state : states) copies.add(state.copy());
            return copies;
        }

        int count(int what) {
            switch (what) {
                case 0: return items.size();
                case 1: return allOf(Sort.JUMP).size();
                case 2: return allOf(Sort.CALL).size();
                case 3: return allOf(Sort.SPOT).size();
                case 4: return allOf(Sort.OP).size();
                case 5: return reach;
                case 6: return now.islands.size();
                case 7: return past.size();
                case 8: return text.length();
                default: return BAD;
            }
        }
    }
}
