/** Promises 8 to 10, 18 and 19: order, also, through, high, rank. */
public final class OrdersTest {
    private static final int MIN = Integer.MIN_VALUE;
    private static final int MAX = Integer.MAX_VALUE;
    private static final Due due = new Due();

    public static void main(String[] args) {
        orderRefusals();
        nativeOrder();
        orderByPage();
        orderByPageIsKept();
        orderByBarePages();
        alphabetAtFirst();
        rangesUpAndDown();
        rangeTaken();
        equalSigns();
        fullAlphabet();
        alphabetRefusals();
        highAndRankRefusals();
        due.end();
    }

    private static void orderRefusals() {
        CodePages x = new CodePages();
        for (int kind : new int[] {-1, 3, MIN, MAX}) {
            due.is("order(" + kind + ")", x.order(kind), -4);
        }
        for (int n = 0; n < 12; n++) {
            due.is("order number " + n, x.order(n % 3), n);
        }
        due.is("a 13th order", x.order(2), -1);
        due.is("a 13th order of no kind: outside comes first", x.order(-1), -4);
        due.is("the 12th order is there", x.rank(11, 7), 7);
        due.is("the 12th order is an alphabet", x.through(11, 7, 7), 1);
        due.is("no order 12", x.rank(12, 7), -2);
    }

    /** Every fifth code, 0 and 255 among them: an object has but 512 calls. */
    private static void ranksNatively(String what, CodePages x, int order) {
        for (int c = 0; c < 256; c += 5) {
            due.is(what + ": rank of " + c, x.rank(order, c), c);
        }
        due.is(what + ": high", x.high(order), 255);
    }

    private static void nativeOrder() {
        CodePages x = new CodePages();
        x.page(1);
        x.order(0);
        ranksNatively("native", x, 0);
    }

    private static void orderByPage() {
        CodePages x = new CodePages();
        x.page(1);
        x.order(1);
        for (int c = 0; c < 256; c++) {
            due.is("by page: rank of " + c, x.rank(0, c), (167 * c + 13) & 255);
        }
        int last = x.high(0);
        due.is("by page: high", (167 * last + 13) & 255, 255);
    }

    private static void orderByPageIsKept() {
        CodePages x = new CodePages();
        x.page(2);
        x.page(1);
        x.set(0, 9, 65535);
        x.set(0, 255, 0);
        x.set(0, 100, 400);
        x.order(1);
        x.set(0, 0, 1);
        x.set(0, 255, -1);
        int[] first = {255, 100, 9, 0, 1};
        for (int k = 0; k < first.length; k++) {
            due.is("kept: rank of " + first[k], x.rank(0, first[k]), k);
        }
        due.is("kept: rank of 8", x.rank(0, 8), 11);
        due.is("kept: rank of 10", x.rank(0, 10), 12);
        due.is("kept: rank of 99", x.rank(0, 99), 101);
        due.is("kept: rank of 101", x.rank(0, 101), 102);
        due.is("kept: rank of 254", x.rank(0, 254), 255);
        due.is("kept: high", x.high(0), 254);
        x.order(1);
        due.is("a later order: rank of 0", x.rank(1, 0), 0);
        due.is("a later order: rank of 100", x.rank(1, 100), 1);
        due.is("a later order: rank of 9", x.rank(1, 9), 2);
        due.is("a later order: rank of 255", x.rank(1, 255), 255);
        due.is("a later order: high", x.high(1), 255);
    }

    private static void orderByBarePages() {
        CodePages x = new CodePages();
        x.order(1);
        ranksNatively("no page 0", x, 0);
        x.page(2);
        x.order(1);
        ranksNatively("page 0 means nothing", x, 1);
        CodePages y = new CodePages();
        y.page(0);
        y.order(1);
        ranksNatively("page 0 of kind 0", y, 0);
    }

    private static void alphabetAtFirst() {
        CodePages x = new CodePages();
        x.page(1);
        x.order(2);
        ranksNatively("empty alphabet", x, 0);
        due.is("also in an empty one", x.also(0, 5, 6), 0);
        ranksNatively("still empty", x, 0);
    }

    private static void rangesUpAndDown() {
        CodePages x = new CodePages();
        x.order(2);
        x.order(2);
        due.is("through(0, 253, 255)", x.through(0, 253, 255), 3);
        due.is("through(0, 2, 0)", x.through(0, 2, 0), 3);
        due.is("through(0, 100, 100)", x.through(0, 100, 100), 1);
        int[] first = {253, 254, 255, 2, 1, 0, 100, 3, 4, 5};
        for (int k = 0; k < first.length; k++) {
            due.is("ranges: rank of " + first[k], x.rank(0, first[k]), k);
        }
        due.is("ranges: rank of 99", x.rank(0, 99), 103);
        due.is("ranges: rank of 101", x.rank(0, 101), 104);
        due.is("ranges: rank of 252", x.rank(0, 252), 255);
        due.is("ranges: high", x.high(0), 252);
        ranksNatively("another alphabet", x, 1);
    }

    private static void rangeTaken() {
        CodePages x = new CodePages();
        x.order(2);
        x.through(0, 10, 12);
        due.is("the last one is taken", x.through(0, 5, 10), 0);
        due.is("the first one is taken", x.through(0, 12, 20), 0);
        due.is("downwards, the last one is taken", x.through(0, 20, 12), 0);
        due.is("the middle is taken", x.through(0, 20, 0), 0);
        due.is("the same range", x.through(0, 10, 12), 0);
        due.is("rank of 10", x.rank(0, 10), 0);
        due.is("rank of 12", x.rank(0, 12), 2);
        due.is("rank of 0", x.rank(0, 0), 3);
        due.is("rank of 13", x.rank(0, 13), 13);
        due.is("those beside it are free", x.through(0, 9, 5), 5);
        due.is("behind those there", x.rank(0, 9), 3);
        due.is("the end of it", x.rank(0, 5), 7);
    }

    private static void equalSigns() {
        CodePages x = new CodePages();
        x.order(2);
        x.through(0, 65, 90);
        due.is("also(0, 65, 97)", x.also(0, 65, 97), 1);
        due.is("also(0, 97, 0)", x.also(0, 97, 0), 1);
        due.is("the other one is in it", x.also(0, 66, 97), 0);
        due.is("the other one is in it with that rank", x.also(0, 65, 97), 0);
        due.is("a code and itself", x.also(0, 65, 65), 0);
        due.is("a code that isn't in it, and itself", x.also(0, 200, 200), 0);
        due.is("the one isn't in it", x.also(0, 200, 201), 0);
        due.is("the one isn't in it, the other is", x.also(0, 200, 66), 0);
        due.is("rank of 97", x.rank(0, 97), 0);
        due.is("rank of 0", x.rank(0, 0), 0);
        due.is("rank of 66", x.rank(0, 66), 1);
        due.is("rank of 1", x.rank(0, 1), 26);
        due.is("rank of 98: no gap", x.rank(0, 98), 26 + 64 + 6);
        due.is("rank of 255", x.rank(0, 255), 253);
        due.is("an equal sign is in the alphabet", x.through(0, 96, 98), 0);
        due.is("the next range", x.through(0, 98, 99), 2);
        due.is("equal signs took no rank", x.rank(0, 98), 26);
    }

    private static void fullAlphabet() {
        CodePages x = new CodePages();
        x.order(2);
        due.is("all codes", x.through(0, 255, 0), 256);
        due.is("all: rank of 255", x.rank(0, 255), 0);
        due.is("all: rank of 0", x.rank(0, 0), 255);
        due.is("all: high", x.high(0), 0);
        due.is("all: nothing else comes", x.through(0, 7, 7), 0);
        x.order(2);
        x.through(1, 5, 255);
        x.through(1, 3, 1);
        due.is("one is left: high", x.high(1), 0 + 4);
        x.also(1, 1, 4);
        due.is("0 is left: high", x.high(1), 0);
        x.also(1, 7, 0);
        due.is("the greatest of two with the greatest rank", x.high(1), 4);
        due.is("the greatest rank", x.rank(1, 4), 253);
        x.order(2);
        x.through(2, 0, 200);
        x.also(2, 5, 255);
        due.is("high is the last one outside", x.high(2), 254);
        x.order(2);
        x.through(3, 0, 253);
        x.through(3, 255, 255);
        x.also(3, 255, 254);
        due.is("the greatest one, told first", x.high(3), 255);
    }

    private static void alphabetRefusals() {
        CodePages x = new CodePages();
        x.order(0);
        x.order(1);
        x.order(2);
        for (int order : new int[] {-1, 3, 12, MIN, MAX}) {
            due.is("also, no order", x.also(order, 256, 0), -2);
            due.is("through, no order", x.through(order, 0, 256), -2);
        }
        for (int c : new int[] {-1, 256, MIN, MAX}) {
            for (int order = 0; order < 3; order++) {
                due.is("also(" + order + ", " + c + ", 0)", x.also(order, c, 0), -4);
                due.is("also(" + order + ", 0, " + c + ")", x.also(order, 0, c), -4);
                due.is("through(" + order + ", " + c + ", 0)", x.through(order, c, 0), -4);
                due.is("through(" + order + ", 0, " + c + ")", x.through(order, 0, c), -4);
            }
        }
        for (int order = 0; order < 2; order++) {
            due.is("also in kind " + order, x.also(order, 0, 255), -5);
            due.is("through in kind " + order, x.through(order, 255, 0), -5);
        }
        for (int order = 0; order < 3; order++) {
            ranksNatively("after refusals, order " + order, x, order);
        }
    }

    private static void highAndRankRefusals() {
        CodePages x = new CodePages();
        x.order(0);
        for (int order : new int[] {-1, 1, 12, MIN, MAX}) {
            due.is("high(" + order + ")", x.high(order), -2);
            due.is("rank(" + order + ", 0)", x.rank(order, 0), -2);
            due.is("rank: no order before outside", x.rank(order, 256), -2);
        }
        for (int c : new int[] {-1, 256, MIN, MAX}) {
            due.is("rank(0, " + c + ")", x.rank(0, c), -4);
        }
    }
}
