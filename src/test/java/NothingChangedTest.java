import java.util.Arrays;
import java.util.function.ToLongFunction;

/**
 * A call that is refused, that throws, that answers 0 or that only asks leaves the object as it was:
 * after it, all that can be asked is answered as by an object made alike without that call.
 */
public final class NothingChangedTest {
    private static final int MIN = Asked.MIN;
    private static final int MAX = Asked.MAX;
    private static final int NONE = CodePages.NONE;
    private static final long THROWN = Long.MIN_VALUE;
    // One object has 512 calls, so what can be asked is asked in parts, each of an object of its own.
    private static final int PARTS = 8;
    private static final Due due = new Due();

    private static boolean full;
    private static long[][] untouched;

    public static void main(String[] args) {
        prepare(false);
        pageCalls();
        orderCalls();
        textCalls();
        callsThatAnswerZero();
        callsThatOnlyAsk();
        prepare(true);
        callsWithoutRoom();
        due.end();
    }

    private static void prepare(boolean withoutRoom) {
        full = withoutRoom;
        untouched = new long[PARTS][];
        for (int part = 0; part < PARTS; part++) {
            untouched[part] = all(made(), part);
        }
    }

    /** Something of each sort, with a full text, an empty one and one between; without room if full. */
    private static CodePages made() {
        CodePages x = new CodePages();
        for (int kind = 0; kind < 3; kind++) {
            x.page(kind);
            x.standIn(kind, 70 + kind);
        }
        x.set(0, 200, 65535);
        x.set(0, 10, NONE);
        x.set(2, 7, 65);
        for (int kind = 0; kind < 3; kind++) {
            x.order(kind);
        }
        x.through(2, 90, 80);
        x.also(2, 85, 120);
        int[] codes = {65, 200, 255};
        x.text();
        for (int c : codes) {
            x.sign(0, c);
        }
        x.text();
        for (int k = 0; k < 40; k++) {
            x.sign(1, 100 + k);
        }
        x.text();
        for (int c : codes) {
            x.translate(c, 0, 2);
        }
        if (full) {
            fillUp(x);
        }
        return x;
    }

    private static void fillUp(CodePages x) {
        for (int n = 3; n < 12; n++) {
            x.page(2);
            x.order(2);
        }
        for (int n = 3; n < 40; n++) {
            x.text();
        }
    }

    /** What can be asked of an object, a part of it: rows, ranks, or all the rest. */
    private static long[] all(CodePages x, int part) {
        if (part < 3) {
            return rows(x, part);
        }
        if (part < 6) {
            return ranks(x, part - 3);
        }
        return part == 6 ? lists(x) : whatComesNext(x);
    }

    private static long[] rows(CodePages x, int page) {
        long[] answers = new long[256];
        for (int i = 0; i < 256; i++) {
            answers[i] = x.row(page, i);
        }
        return answers;
    }

    private static long[] ranks(CodePages x, int order) {
        long[] answers = new long[257];
        for (int c = 0; c < 256; c++) {
            answers[c] = x.rank(order, c);
        }
        answers[256] = x.high(order);
        return answers;
    }

    private static long[] lists(CodePages x) {
        long[] answers = new long[4 * 41];
        for (int k = 0; k < 41; k++) {
            answers[4 * k] = x.told(k);
            for (int text = 0; text < 3; text++) {
                answers[4 * k + 1 + text] = x.at(text, k);
            }
        }
        return answers;
    }

    private static long[] whatComesNext(CodePages x) {
        return new long[] {
            x.compare(0, 0, 1), x.compare(1, 0, 1), x.compare(2, 1, 2),
            x.sign(0, 1), x.sign(1, 1), x.sign(2, 1),
            x.through(2, 1, 2), x.rank(2, 1), x.through(2, 120, 120), x.also(2, 85, 119),
            x.standIn(0, 1), x.standIn(1, 1), x.standIn(2, 1),
            x.translate(255, 0, 0), x.told(2), x.told(3),
            x.page(0), x.order(0), x.text(),
        };
    }

    private static void leaves(String call, long want, ToLongFunction<CodePages> asked) {
        for (int part = 0; part < PARTS; part++) {
            CodePages x = made();
            due.is(call, asked.applyAsLong(x), want);
            due.is(call + " left part " + part + " as it was, 1 for yes:",
                Arrays.equals(all(x, part), untouched[part]), true);
        }
    }

    private static void pageCalls() {
        due.about("or refused: promises 2 to 6");
        for (int kind : new int[] {-1, 3, MIN, MAX}) {
            leaves("page(" + kind + ")", -4, x -> x.page(kind));
        }
        for (int page : new int[] {-1, 3, 12, MIN, MAX}) {
            leaves("set(" + page + ", 0, 300)", -2, x -> x.set(page, 0, 300));
            leaves("standIn(" + page + ", 0)", -2, x -> x.standIn(page, 0));
            leaves("translate(255, " + page + ", 2)", -2, x -> x.translate(255, page, 2));
            leaves("translate(255, 0, " + page + ")", -2, x -> x.translate(255, 0, page));
            leaves("row(" + page + ", 0)", THROWN, x -> rowOrThrown(x, page, 0));
        }
        for (int c : new int[] {-1, 256, MIN, MAX}) {
            leaves("set(0, " + c + ", 300)", -4, x -> x.set(0, c, 300));
            leaves("standIn(0, " + c + ")", -4, x -> x.standIn(0, c));
            leaves("translate(" + c + ", 0, 2)", -4, x -> x.translate(c, 0, 2));
            leaves("row(0, " + c + ")", THROWN, x -> rowOrThrown(x, 0, c));
        }
        for (int u : new int[] {-2, 65536, MIN, MAX}) {
            leaves("set(0, 0, " + u + ")", -4, x -> x.set(0, 0, u));
        }
    }

    private static void orderCalls() {
        due.about("or refused: promises 8 to 10");
        for (int kind : new int[] {-1, 3, MIN, MAX}) {
            leaves("order(" + kind + ")", -4, x -> x.order(kind));
        }
        for (int order : new int[] {-1, 3, 12, MIN, MAX}) {
            leaves("also(" + order + ", 90, 1)", -2, x -> x.also(order, 90, 1));
            leaves("through(" + order + ", 1, 2)", -2, x -> x.through(order, 1, 2));
        }
        for (int order = 0; order < 2; order++) {
            int kind = order;
            leaves("also(" + order + ", 90, 1)", -5, x -> x.also(kind, 90, 1));
            leaves("through(" + order + ", 1, 2)", -5, x -> x.through(kind, 1, 2));
        }
        for (int c : new int[] {-1, 256, MIN, MAX}) {
            leaves("also(2, " + c + ", 1)", -4, x -> x.also(2, c, 1));
            leaves("also(2, 90, " + c + ")", -4, x -> x.also(2, 90, c));
            leaves("through(2, " + c + ", 1)", -4, x -> x.through(2, c, 1));
            leaves("through(2, 254, " + c + ")", -4, x -> x.through(2, 254, c));
        }
    }

    private static void textCalls() {
        due.about("or refused: promises 12 and 13");
        for (int text : new int[] {-1, 3, 40, MIN, MAX}) {
            leaves("sign(" + text + ", 0)", -2, x -> x.sign(text, 0));
            leaves("whole(" + text + ", 0, 2)", -2, x -> x.whole(text, 0, 2));
        }
        for (int c : new int[] {-1, 256, MIN, MAX}) {
            leaves("sign(0, " + c + ")", -4, x -> x.sign(0, c));
            leaves("sign(2, " + c + ")", -4, x -> x.sign(2, c));
        }
        leaves("sign(1, 0)", NONE, x -> x.sign(1, 0));
        for (int page : new int[] {-1, 3, 12, MIN, MAX}) {
            leaves("whole(0, " + page + ", 2)", -2, x -> x.whole(0, page, 2));
            leaves("whole(1, 0, " + page + ")", -2, x -> x.whole(1, 0, page));
        }
    }

    private static void callsThatAnswerZero() {
        due.about("0, changing nothing: promises 3, 9 and 10");
        leaves("set(0, 0, 65535)", 0, x -> x.set(0, 0, 65535));
        leaves("set(0, 200, 0)", 0, x -> x.set(0, 200, 0));
        leaves("set(2, 255, 65)", 0, x -> x.set(2, 255, 65));
        leaves("also(2, 91, 1), 91 isn't in it", 0, x -> x.also(2, 91, 1));
        leaves("also(2, 79, 1), 79 isn't in it", 0, x -> x.also(2, 79, 1));
        leaves("also(2, 90, 120), 120 is", 0, x -> x.also(2, 90, 120));
        leaves("also(2, 80, 90), 90 is", 0, x -> x.also(2, 80, 90));
        leaves("also(2, 91, 80), neither holds", 0, x -> x.also(2, 91, 80));
        leaves("also(2, 85, 85)", 0, x -> x.also(2, 85, 85));
        leaves("also(2, 255, 255)", 0, x -> x.also(2, 255, 255));
        leaves("through(2, 90, 100)", 0, x -> x.through(2, 90, 100));
        leaves("through(2, 100, 90)", 0, x -> x.through(2, 100, 90));
        leaves("through(2, 70, 80)", 0, x -> x.through(2, 70, 80));
        leaves("through(2, 255, 120)", 0, x -> x.through(2, 255, 120));
        leaves("through(2, 0, 255)", 0, x -> x.through(2, 0, 255));
    }

    private static void callsThatOnlyAsk() {
        due.about("told, at, compare, cls, print, high, rank and row only ask");
        for (int n : new int[] {-1, 3, 40, 200, MIN, MAX}) {
            leaves("told(" + n + ")", NONE, x -> x.told(n));
            leaves("at(" + n + ", 0)", NONE, x -> x.at(n, 0));
            leaves("at(0, " + n + ")", NONE, x -> x.at(0, n));
            leaves("cls(" + n + ", 4)", 0, x -> x.cls(n, 4) ? 1 : 0);
            leaves("print(" + n + ", 3)", 0, x -> x.print(n, 3));
        }
        for (int none : new int[] {-1, 3, 40, MIN, MAX}) {
            leaves("compare(" + none + ", 0, 1)", -2, x -> x.compare(none, 0, 1));
            leaves("compare(0, " + none + ", 1)", -2, x -> x.compare(0, none, 1));
            leaves("compare(0, 0, " + none + ")", -2, x -> x.compare(0, 0, none));
            leaves("high(" + none + ")", -2, x -> x.high(none));
            leaves("rank(" + none + ", 0)", -2, x -> x.rank(none, 0));
        }
        leaves("told(1)", 255, x -> x.told(1));
        leaves("at(0, 1)", 200, x -> x.at(0, 1));
        leaves("compare(2, 2, 0)", -1, x -> x.compare(2, 2, 0));
        leaves("rank(2, 256)", -4, x -> x.rank(2, 256));
        leaves("high(2)", 255, x -> x.high(2));
        leaves("rank(2, 120)", 5, x -> x.rank(2, 120));
        leaves("row(0, 200)", 65535, x -> x.row(0, 200));
    }

    private static void callsWithoutRoom() {
        due.about("NONE: promises 2, 8, 11 and 12");
        for (int kind = 0; kind < 3; kind++) {
            int asked = kind;
            leaves("page(" + kind + ")", NONE, x -> x.page(asked));
            leaves("order(" + kind + ")", NONE, x -> x.order(asked));
        }
        leaves("page(3)", -4, x -> x.page(3));
        leaves("order(3)", -4, x -> x.order(3));
        leaves("text()", NONE, x -> x.text());
        leaves("sign(1, 255)", NONE, x -> x.sign(1, 255));
        leaves("sign(1, 256)", -4, x -> x.sign(1, 256));
    }

    private static long rowOrThrown(CodePages x, int page, int i) {
        try {
            return x.row(page, i);
        } catch (ArrayIndexOutOfBoundsException e) {
            return THROWN;
        }
    }
}
