import java.util.ArrayList;
import java.util.HashMap;
import java.util.List;
import java.util.Map;
import java.util.Random;

/**
 * Long runs of all calls, answered by the class and by a second program that holds its state in another way:
 * pages as maps, an alphabet as a list of groups, ranks counted anew for each call.
 */
public final class ModelTest {
    private static final int RUNS = 120;
    private static final int CALLS = 512;
    private static final int[] EDGES = {
        -2, -1, 0, 1, 11, 12, 31, 32, 39, 40, 63, 127, 128, 254, 255, 256, 65535, 65536,
        Integer.MIN_VALUE, Integer.MAX_VALUE,
    };
    private static final String[] CALL_NAMES = {
        "page", "set", "row", "standIn", "translate", "told", "order", "also", "through",
        "text", "sign", "whole", "at", "compare", "cls", "print", "high", "rank",
    };
    private static final long THROWN = Long.MIN_VALUE;

    private static final class Alphabet {
        final List<List<Integer>> groups = new ArrayList<>();

        boolean has(int c) {
            return groupOf(c) >= 0;
        }

        int groupOf(int c) {
            for (int g = 0; g < groups.size(); g++) {
                if (groups.get(g).contains(c)) {
                    return g;
                }
            }
            return -1;
        }
    }

    private final List<Map<Integer, Integer>> pages = new ArrayList<>();
    private final List<Integer> standIns = new ArrayList<>();
    private final List<Integer> told = new ArrayList<>();
    // An order is an Alphabet, or the list of all codes as they follow one another.
    private final List<Object> orders = new ArrayList<>();
    private final List<List<Integer>> texts = new ArrayList<>();

    public static void main(String[] args) {
        Due due = new Due();
        for (int run = 0; run < RUNS; run++) {
            oneRun(due, run);
        }
        due.end();
    }

    private static void oneRun(Due due, int run) {
        Random random = new Random(run);
        // Runs differ in which calls they like and in how far their codes are spread.
        int[] liking = new int[CALL_NAMES.length];
        int sum = 0;
        for (int k = 0; k < liking.length; k++) {
            liking[k] = 1 + random.nextInt(8);
            sum += liking[k];
        }
        int spread = new int[] {4, 40, 256}[random.nextInt(3)];
        CodePages x = new CodePages();
        ModelTest model = new ModelTest();
        for (int n = 0; n < CALLS; n++) {
            int pick = random.nextInt(sum);
            int call = 0;
            while (pick >= liking[call]) {
                pick -= liking[call];
                call++;
            }
            int[] a = arguments(random, CALL_NAMES[call], spread);
            String told = "run " + run + ", call " + n + ": " + CALL_NAMES[call]
                + "(" + a[0] + ", " + a[1] + ", " + a[2] + ")";
            due.is(told, answer(x, CALL_NAMES[call], a), model.answer(CALL_NAMES[call], a));
        }
    }

    private static int[] arguments(Random random, String call, int spread) {
        int thing = random.nextInt(4);
        int code = random.nextInt(spread);
        int code2 = random.nextInt(3) > 0 ? random.nextInt(spread) : Math.min(255, code + random.nextInt(4));
        int[] a;
        switch (call) {
            case "page": case "order": a = new int[] {random.nextInt(3), 0, 0}; break;
            case "translate": a = new int[] {code, thing, random.nextInt(4)}; break;
            case "told": a = new int[] {random.nextInt(210), 0, 0}; break;
            case "set": a = new int[] {thing, code, random.nextInt(4) == 0 ? -1 : code2}; break;
            case "whole": case "compare": a = new int[] {thing, random.nextInt(4), random.nextInt(4)}; break;
            case "at": a = new int[] {thing, random.nextInt(41), 0}; break;
            case "cls": case "print": a = new int[] {random.nextInt(256), random.nextInt(7), 0}; break;
            default: a = new int[] {thing, code, code2}; break;
        }
        if (random.nextInt(12) == 0) {
            a[random.nextInt(3)] = EDGES[random.nextInt(EDGES.length)];
        }
        return a;
    }

    private static long answer(CodePages x, String call, int[] a) {
        switch (call) {
            case "page": return x.page(a[0]);
            case "set": return x.set(a[0], a[1], a[2]);
            case "row":
                try {
                    return x.row(a[0], a[1]);
                } catch (ArrayIndexOutOfBoundsException e) {
                    return THROWN;
                }
            case "standIn": return x.standIn(a[0], a[1]);
            case "translate": return x.translate(a[0], a[1], a[2]);
            case "told": return x.told(a[0]);
            case "order": return x.order(a[0]);
            case "also": return x.also(a[0], a[1], a[2]);
            case "through": return x.through(a[0], a[1], a[2]);
            case "text": return x.text();
            case "sign": return x.sign(a[0], a[1]);
            case "whole": return x.whole(a[0], a[1], a[2]);
            case "at": return x.at(a[0], a[1]);
            case "compare": return x.compare(a[0], a[1], a[2]);
            case "cls": return x.cls(a[0], a[1]) ? 1 : 0;
            case "print": return x.print(a[0], a[1]);
            case "high": return x.high(a[0]);
            default: return x.rank(a[0], a[1]);
        }
    }

    private long answer(String call, int[] a) {
        switch (call) {
            case "page": return page(a[0]);
            case "set": return set(a[0], a[1], a[2]);
            case "row": return none(pages, a[0]) || !code(a[1]) ? THROWN : pages.get(a[0]).getOrDefault(a[1], -1);
            case "standIn":
                return none(pages, a[0]) ? -2 : !code(a[1]) ? -4 : standIns.set(a[0], a[1]);
            case "translate":
                return none(pages, a[1]) || none(pages, a[2]) ? -2 : !code(a[0]) ? -4 : translate(a[0], a[1], a[2]);
            case "told": return a[0] >= 200 || none(told, a[0]) ? -1 : told.get(a[0]);
            case "order": return order(a[0]);
            case "also": return also(a[0], a[1], a[2]);
            case "through": return through(a[0], a[1], a[2]);
            case "text":
                if (texts.size() == 40) {
                    return -1;
                }
                texts.add(new ArrayList<>());
                return texts.size() - 1;
            case "sign": return sign(a[0], a[1]);
            case "whole": return whole(a[0], a[1], a[2]);
            case "at": return none(texts, a[0]) || none(texts.get(a[0]), a[1]) ? -1 : texts.get(a[0]).get(a[1]);
            case "compare": return compare(a[0], a[1], a[2]);
            case "cls": return code(a[0]) && isOfClass((char) a[0], a[1]) ? 1 : 0;
            case "print": return code(a[0]) ? printed(a[0], a[1]) : 0;
            case "high": return high(a[0]);
            default: return none(orders, a[0]) ? -2 : !code(a[1]) ? -4 : rank(orders.get(a[0]), a[1]);
        }
    }

    private static boolean none(List<?> things, int number) {
        return number < 0 || number >= things.size();
    }

    private static boolean code(int c) {
        return 0 <= c && c <= 255;
    }

    private int page(int kind) {
        if (kind < 0 || kind > 2) {
            return -4;
        }
        if (pages.size() == 12) {
            return -1;
        }
        Map<Integer, Integer> made = new HashMap<>();
        for (int i = 0; i < 256; i++) {
            if (kind == 0 && i <= 127) {
                made.put(i, i);
            } else if (kind == 1) {
                made.put(i, Math.floorMod(167 * i + 13, 256));
            }
        }
        pages.add(made);
        standIns.add(63);
        return pages.size() - 1;
    }

    private int set(int page, int i, int u) {
        if (none(pages, page)) {
            return -2;
        }
        if (!code(i) || u < -1 || u > 65535) {
            return -4;
        }
        Map<Integer, Integer> others = new HashMap<>(pages.get(page));
        others.remove(i);
        if (others.containsValue(u)) {
            return 0;
        }
        if (u != -1) {
            others.put(i, u);
        }
        pages.set(page, others);
        return 1;
    }

    private int translate(int c, int from, int to) {
        Integer meaning = pages.get(from).get(c);
        for (Map.Entry<Integer, Integer> entry : pages.get(to).entrySet()) {
            if (entry.getValue().equals(meaning)) {
                return entry.getKey();
            }
        }
        told.add(c);
        return standIns.get(to);
    }

    private int order(int kind) {
        if (kind < 0 || kind > 2) {
            return -4;
        }
        if (orders.size() == 12) {
            return -1;
        }
        List<Integer> codes = new ArrayList<>();
        for (int c = 0; c < 256; c++) {
            codes.add(c);
        }
        if (kind == 1 && !pages.isEmpty()) {
            Map<Integer, Integer> meanings = new HashMap<>(pages.get(0));
            codes.sort((c, d) -> Integer.compare(
                meanings.getOrDefault(c, Integer.MAX_VALUE), meanings.getOrDefault(d, Integer.MAX_VALUE)));
        }
        orders.add(kind == 2 ? new Alphabet() : codes);
        return orders.size() - 1;
    }

    private int also(int order, int c, int other) {
        if (none(orders, order)) {
            return -2;
        }
        if (!code(c) || !code(other)) {
            return -4;
        }
        if (!(orders.get(order) instanceof Alphabet alphabet)) {
            return -5;
        }
        if (!alphabet.has(c) || alphabet.has(other)) {
            return 0;
        }
        alphabet.groups.get(alphabet.groupOf(c)).add(other);
        return 1;
    }

    private int through(int order, int from, int to) {
        if (none(orders, order)) {
            return -2;
        }
        if (!code(from) || !code(to)) {
            return -4;
        }
        if (!(orders.get(order) instanceof Alphabet alphabet)) {
            return -5;
        }
        List<List<Integer>> range = new ArrayList<>();
        int step = from <= to ? 1 : -1;
        for (int c = from; c != to + step; c += step) {
            if (alphabet.has(c)) {
                return 0;
            }
            range.add(new ArrayList<>(List.of(c)));
        }
        alphabet.groups.addAll(range);
        return range.size();
    }

    private int sign(int text, int c) {
        if (none(texts, text)) {
            return -2;
        }
        if (!code(c)) {
            return -4;
        }
        if (texts.get(text).size() == 40) {
            return -1;
        }
        texts.get(text).add(c);
        return texts.get(text).size();
    }

    private int whole(int text, int from, int to) {
        if (none(texts, text) || none(pages, from) || none(pages, to)) {
            return -2;
        }
        int before = told.size();
        texts.get(text).replaceAll(c -> translate(c, from, to));
        return told.size() - before;
    }

    private int compare(int order, int a, int b) {
        if (none(orders, order) || none(texts, a) || none(texts, b)) {
            return -2;
        }
        for (int k = 0; k < 40; k++) {
            int left = none(texts.get(a), k) ? ' ' : texts.get(a).get(k);
            int right = none(texts.get(b), k) ? ' ' : texts.get(b).get(k);
            int difference = rank(orders.get(order), left) - rank(orders.get(order), right);
            if (difference != 0) {
                return difference < 0 ? -1 : 1;
            }
        }
        return 0;
    }

    private static boolean isOfClass(char sign, int kind) {
        String[] classes = {"[0-9]", "[A-Za-z]", "[A-Z]", "[a-z]", " ", "\\p{Cntrl}"};
        return kind >= 0 && kind < classes.length && String.valueOf(sign).matches(classes[kind]);
    }

    private static int printed(int c, int i) {
        String three = String.format("%02X", c) + "??????????+-+-++".charAt(c % 16);
        return i >= 0 && i < 3 ? three.charAt(i) : 0;
    }

    private int high(int order) {
        if (none(orders, order)) {
            return -2;
        }
        int last = 255;
        for (int c = 254; c >= 0; c--) {
            if (rank(orders.get(order), c) > rank(orders.get(order), last)) {
                last = c;
            }
        }
        return last;
    }

    private static int rank(Object order, int c) {
        if (!(order instanceof Alphabet alphabet)) {
            return ((List<?>) order).indexOf(c);
        }
        if (alphabet.has(c)) {
            return alphabet.groupOf(c);
        }
        int rank = alphabet.groups.size();
        for (int before = 0; before < c; before++) {
            rank += alphabet.has(before) ? 0 : 1;
        }
        return rank;
    }
}
