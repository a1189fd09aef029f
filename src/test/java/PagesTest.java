/** Promises 1 to 7: a new object, page, set, row, standIn, translate, told. */
public final class PagesTest {
    private static final int MIN = Integer.MIN_VALUE;
    private static final int MAX = Integer.MAX_VALUE;
    private static final Due due = new Due();

    public static void main(String[] args) {
        newObject();
        pageKinds();
        pageRefusals();
        setMeanings();
        setRefusals();
        rowOutside();
        standIns();
        translating();
        translateRefusals();
        listing();
        due.end();
    }

    private static void newObject() {
        CodePages x = new CodePages();
        due.rowThrows(x, 0, 0);
        due.is("new: set", x.set(0, 0, 0), -2);
        due.is("new: standIn", x.standIn(0, 0), -2);
        due.is("new: translate", x.translate(0, 0, 0), -2);
        due.is("new: told", x.told(0), -1);
        due.is("new: also", x.also(0, 0, 1), -2);
        due.is("new: through", x.through(0, 0, 1), -2);
        due.is("new: sign", x.sign(0, 0), -2);
        due.is("new: whole", x.whole(0, 0, 0), -2);
        due.is("new: at", x.at(0, 0), -1);
        due.is("new: compare", x.compare(0, 0, 0), -2);
        due.is("new: high", x.high(0), -2);
        due.is("new: rank", x.rank(0, 0), -2);
        due.is("new: page", x.page(2), 0);
        due.is("new: order", x.order(0), 0);
        due.is("new: text", x.text(), 0);
        CodePages y = new CodePages();
        due.is("a second object has no page", y.set(0, 0, 0), -2);
        due.is("a second object has no order", y.high(0), -2);
        due.is("a second object has no text", y.sign(0, 0), -2);
    }

    private static void pageKinds() {
        for (int kind = 0; kind < 3; kind++) {
            CodePages x = new CodePages();
            due.is("page(" + kind + ")", x.page(kind), 0);
            for (int i = 0; i < 256; i++) {
                int[] want = {i < 128 ? i : -1, (167 * i + 13) & 255, -1};
                due.is("kind " + kind + ": row(0, " + i + ")", x.row(0, i), want[kind]);
            }
        }
    }

    private static void pageRefusals() {
        CodePages x = new CodePages();
        for (int kind : new int[] {-1, 3, MIN, MAX}) {
            due.is("page(" + kind + ")", x.page(kind), -4);
        }
        for (int n = 0; n < 12; n++) {
            due.is("page number " + n, x.page(n % 3), n);
        }
        due.is("a 13th page", x.page(0), -1);
        due.is("a 13th page of no kind: outside comes first", x.page(3), -4);
        due.is("the 12th page is there", x.row(11, 5), -1);
        due.is("row(10, 0) of kind 1", x.row(10, 0), 13);
        due.rowThrows(x, 12, 5);
    }

    private static void setMeanings() {
        CodePages x = new CodePages();
        x.page(2);
        x.page(0);
        due.is("set(0, 0, 0)", x.set(0, 0, 0), 1);
        due.is("the same again", x.set(0, 0, 0), 1);
        due.is("another code, the same meaning", x.set(0, 255, 0), 0);
        due.is("nothing changed", x.row(0, 255), -1);
        due.is("set(0, 255, 65535)", x.set(0, 255, 65535), 1);
        due.is("row(0, 255)", x.row(0, 255), 65535);
        due.is("taken, and 255 keeps what it means", x.set(0, 255, 0), 0);
        due.is("row(0, 255) as before", x.row(0, 255), 65535);
        due.is("another meaning", x.set(0, 255, 7), 1);
        due.is("65535 is free again", x.set(0, 3, 65535), 1);
        due.is("nothing", x.set(0, 255, -1), 1);
        due.is("nothing twice", x.set(0, 255, -1), 1);
        due.is("nothing, though others mean nothing too", x.set(0, 254, -1), 1);
        due.is("row(0, 255) nothing", x.row(0, 255), -1);
        due.is("another page is its own", x.row(1, 3), 3);
        due.is("another page may mean the same", x.set(1, 200, 65535), 1);
    }

    private static void setRefusals() {
        CodePages x = new CodePages();
        x.page(0);
        for (int page : new int[] {-1, 1, 12, MIN, MAX}) {
            due.is("set(" + page + ", 0, 0)", x.set(page, 0, 0), -2);
            due.is("no page before outside", x.set(page, 256, -2), -2);
        }
        for (int i : new int[] {-1, 256, MIN, MAX}) {
            due.is("set(0, " + i + ", 300)", x.set(0, i, 300), -4);
            due.is("outside before taken", x.set(0, i, 5), -4);
            due.is("outside, nothing", x.set(0, i, -1), -4);
        }
        for (int u : new int[] {-2, 65536, MIN, MAX}) {
            due.is("set(0, 9, " + u + ")", x.set(0, 9, u), -4);
        }
        due.is("row(0, 9) as before", x.row(0, 9), 9);
    }

    private static void rowOutside() {
        CodePages x = new CodePages();
        x.page(1);
        for (int page : new int[] {-1, 1, 11, 12, 13, MIN, MAX}) {
            due.rowThrows(x, page, 0);
        }
        for (int i : new int[] {-1, 256, MIN, MAX}) {
            due.rowThrows(x, 0, i);
            due.rowThrows(x, 1, i);
        }
        due.is("row(0, 1) after throwing", x.row(0, 1), 180);
    }

    private static void standIns() {
        CodePages x = new CodePages();
        x.page(2);
        x.page(0);
        due.is("standIn(0, 0)", x.standIn(0, 0), 63);
        due.is("standIn(0, 255)", x.standIn(0, 255), 0);
        due.is("standIn(0, -1)", x.standIn(0, -1), -4);
        due.is("standIn(0, 256)", x.standIn(0, 256), -4);
        due.is("standIn(0, MAX)", x.standIn(0, MAX), -4);
        due.is("standIn(0, MIN)", x.standIn(0, MIN), -4);
        due.is("standIn(0, 255) again", x.standIn(0, 255), 255);
        due.is("standIn(1, 64)", x.standIn(1, 64), 63);
        for (int page : new int[] {-1, 2, 12, MIN, MAX}) {
            due.is("standIn(" + page + ", 256)", x.standIn(page, 256), -2);
        }
    }

    private static void translating() {
        CodePages x = new CodePages();
        x.page(0);
        x.page(1);
        x.page(2);
        for (int c = 0; c < 128; c++) {
            int code = x.translate(c, 0, 1);
            due.is("what " + c + " became means " + c, (167 * code + 13) & 255, c);
            due.is("there and back: " + c, x.translate(code, 1, 0), c);
        }
        due.is("nothing is listed", x.told(0), -1);
        due.is("to the same page", x.translate(65, 0, 0), 65);
        x.standIn(0, 64);
        x.standIn(1, 200);
        x.standIn(2, 201);
        due.is("no meaning, to the same page", x.translate(200, 0, 0), 64);
        due.is("nothing isn't what nothing means", x.translate(5, 2, 0), 64);
        due.is("nothing to nothing", x.translate(6, 2, 2), 201);
        due.is("a meaning that isn't there", x.translate(7, 0, 2), 201);
        due.is("told(0)", x.told(0), 200);
        due.is("told(1)", x.told(1), 5);
        due.is("told(2)", x.told(2), 6);
        due.is("told(3)", x.told(3), 7);
        due.is("told(4)", x.told(4), -1);
        x.set(2, 255, 1000);
        x.set(0, 0, 1000);
        due.is("to the last code", x.translate(0, 0, 2), 255);
        due.is("to the first code", x.translate(255, 2, 0), 0);
        due.is("still four listed", x.told(4), -1);
    }

    private static void translateRefusals() {
        CodePages x = new CodePages();
        x.page(2);
        for (int page : new int[] {-1, 1, 12, MIN, MAX}) {
            due.is("translate(0, " + page + ", 0)", x.translate(0, page, 0), -2);
            due.is("translate(0, 0, " + page + ")", x.translate(0, 0, page), -2);
            due.is("no page before outside", x.translate(256, 0, page), -2);
        }
        for (int c : new int[] {-1, 256, MIN, MAX}) {
            due.is("translate(" + c + ", 0, 0)", x.translate(c, 0, 0), -4);
        }
        due.is("what is refused is not listed", x.told(0), -1);
    }

    private static void listing() {
        CodePages x = new CodePages();
        x.page(2);
        for (int n = 0; n < 203; n++) {
            due.is("translate, listed", x.translate(n, 0, 0), 63);
        }
        for (int i : new int[] {0, 1, 100, 198, 199}) {
            due.is("told(" + i + ")", x.told(i), i);
        }
        for (int i : new int[] {-1, 200, 201, 202, 203, MIN, MAX}) {
            due.is("told(" + i + ")", x.told(i), -1);
        }
        CodePages y = new CodePages();
        y.page(2);
        y.translate(9, 0, 0);
        y.translate(9, 0, 0);
        due.is("a code is listed each time", y.told(1), 9);
        due.is("and no more", y.told(2), -1);
    }
}
