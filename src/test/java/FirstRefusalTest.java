/**
 * "Refusals: -2 no such page, order, text; -4 a code or another number is outside; -5 not for this kind;
 * NONE no room; the first one of these": a test for each refusal, and for each pair that one call can meet.
 */
public final class FirstRefusalTest {
    private static final int MIN = Asked.MIN;
    private static final int MAX = Asked.MAX;
    private static final int NONE = CodePages.NONE;
    private static final int[] NO_PAGES = {-1, 3, 11, 12, MIN, MAX};
    private static final int[] NO_ORDERS = {-1, 3, 11, 12, MIN, MAX};
    private static final int[] NO_TEXTS = {-1, 2, 39, 40, MIN, MAX};
    private static final int[] NO_KINDS = {-1, 3, MIN, MAX};
    private static final int[] NO_MEANINGS = {-2, 65536, MIN, MAX};
    private static final Due due = new Due();

    public static void main(String[] args) {
        noSuchPage();
        noSuchOrder();
        noSuchText();
        outside();
        notForThisKind();
        noRoom();
        pageOutsideAndNoRoom();
        orderOutsideAndNoRoom();
        setNoPageAndOutside();
        standInNoPageAndOutside();
        translateNoPageAndOutside();
        alsoNoOrderAndOutside();
        throughNoOrderAndOutside();
        alsoOutsideAndNotForThisKind();
        throughOutsideAndNotForThisKind();
        signNoTextAndOutside();
        signOutsideAndNoRoom();
        signNoTextAndNoRoom();
        rankNoOrderAndOutside();
        refusedBeforeZero();
        due.end();
    }

    /** Pages 0 .. 2 and orders 0 .. 2 by kind, text 0 with two codes, text 1 with forty. */
    private static Asked some() {
        Asked x = new Asked(due);
        for (int kind = 0; kind < 3; kind++) {
            x.page(kind);
            x.order(kind);
        }
        x.textOf(65, 66);
        x.textOfMany(40, 67);
        return x;
    }

    private static void noSuchPage() {
        due.about("-2 no such page");
        Asked x = some();
        for (int page : NO_PAGES) {
            x.set(page, 0, 0).is(-2);
            x.standIn(page, 0).is(-2);
            x.translate(0, page, 0).is(-2);
            x.translate(0, 0, page).is(-2);
            x.whole(0, page, 0).is(-2);
            x.whole(0, 0, page).is(-2);
        }
        x.set(2, 0, 0).is(1);
        x.standIn(2, 0).is(63);
        x.translate(0, 2, 2).is(0);
        x.whole(0, 2, 2).is(2);
    }

    private static void noSuchOrder() {
        due.about("-2 no such order");
        Asked x = some();
        for (int order : NO_ORDERS) {
            x.also(order, 0, 1).is(-2);
            x.through(order, 0, 1).is(-2);
            x.compare(order, 0, 1).is(-2);
            x.high(order).is(-2);
            x.rank(order, 0).is(-2);
        }
        x.through(2, 0, 1).is(2);
        x.also(2, 1, 2).is(1);
        x.compare(2, 0, 1).is(-1);
        x.high(2).is(255);
        x.rank(2, 0).is(0);
    }

    private static void noSuchText() {
        due.about("-2 no such text");
        Asked x = some();
        for (int text : NO_TEXTS) {
            x.sign(text, 0).is(-2);
            x.whole(text, 0, 0).is(-2);
            x.compare(0, text, 0).is(-2);
            x.compare(0, 0, text).is(-2);
        }
        x.whole(1, 0, 0).is(0);
        x.compare(0, 1, 0).is(1);
        x.sign(0, 0).is(3);
    }

    private static void outside() {
        due.about("-4 a code or another number is outside");
        Asked x = some();
        for (int kind : NO_KINDS) {
            x.page(kind).is(-4);
            x.order(kind).is(-4);
        }
        for (int u : NO_MEANINGS) {
            x.set(0, 0, u).is(-4);
        }
        for (int c : Asked.NO_CODES) {
            x.set(0, c, 1000).is(-4);
            x.standIn(0, c).is(-4);
            x.translate(c, 0, 1).is(-4);
            x.also(2, c, 0).is(-4);
            x.also(2, 0, c).is(-4);
            x.through(2, c, 0).is(-4);
            x.through(2, 0, c).is(-4);
            x.sign(0, c).is(-4);
            x.rank(2, c).is(-4);
        }
    }

    private static void notForThisKind() {
        due.about("-5 not for this kind");
        Asked x = some();
        for (int order = 0; order < 2; order++) {
            x.through(order, 0, 255).is(-5);
            x.through(order, 255, 0).is(-5);
            x.through(order, 0, 0).is(-5);
            x.also(order, 0, 255).is(-5);
            x.also(order, 255, 0).is(-5);
            x.also(order, 0, 0).is(-5);
        }
        x.through(2, 255, 0).is(256);
        x.also(2, 0, 255).is(0);
    }

    private static void noRoom() {
        due.about("NONE no room");
        Asked x = some();
        for (int n = 3; n < 12; n++) {
            x.page(0).is(n);
            x.order(0).is(n);
        }
        for (int kind = 0; kind < 3; kind++) {
            x.page(kind).is(NONE);
            x.order(kind).is(NONE);
        }
        for (int n = 2; n < 40; n++) {
            x.text().is(n);
        }
        x.text().is(NONE);
        x.sign(1, 0).is(NONE);
        x.sign(1, 255).is(NONE);
        x.sign(39, 255).is(1);
    }

    private static void pageOutsideAndNoRoom() {
        due.about("the first one of these: page, -4 and NONE");
        Asked x = new Asked(due);
        for (int n = 0; n < 12; n++) {
            x.page(2);
        }
        for (int kind : NO_KINDS) {
            x.page(kind).is(-4);
        }
        x.page(0).is(NONE);
        x.page(2).is(NONE);
    }

    private static void orderOutsideAndNoRoom() {
        due.about("the first one of these: order, -4 and NONE");
        Asked x = new Asked(due);
        for (int n = 0; n < 12; n++) {
            x.order(2);
        }
        for (int kind : NO_KINDS) {
            x.order(kind).is(-4);
        }
        x.order(0).is(NONE);
        x.order(2).is(NONE);
    }

    private static void setNoPageAndOutside() {
        due.about("the first one of these: set, -2 and -4");
        Asked x = some();
        for (int page : NO_PAGES) {
            for (int i : Asked.NO_CODES) {
                x.set(page, i, 0).is(-2);
                x.set(page, i, 65536).is(-2);
            }
            for (int u : NO_MEANINGS) {
                x.set(page, 0, u).is(-2);
            }
        }
        x.set(0, 256, 65536).is(-4);
        x.set(0, -1, -2).is(-4);
    }

    private static void standInNoPageAndOutside() {
        due.about("the first one of these: standIn, -2 and -4");
        Asked x = some();
        for (int page : NO_PAGES) {
            for (int c : Asked.NO_CODES) {
                x.standIn(page, c).is(-2);
            }
        }
    }

    private static void translateNoPageAndOutside() {
        due.about("the first one of these: translate, -2 and -4");
        Asked x = some();
        for (int page : NO_PAGES) {
            for (int c : Asked.NO_CODES) {
                x.translate(c, page, 0).is(-2);
                x.translate(c, 0, page).is(-2);
                x.translate(c, page, page).is(-2);
            }
        }
        x.told(0).is(NONE);
    }

    private static void alsoNoOrderAndOutside() {
        due.about("the first one of these: also, -2 and -4");
        Asked x = some();
        for (int order : NO_ORDERS) {
            for (int c : Asked.NO_CODES) {
                x.also(order, c, 0).is(-2);
                x.also(order, 0, c).is(-2);
                x.also(order, c, c).is(-2);
            }
        }
    }

    private static void throughNoOrderAndOutside() {
        due.about("the first one of these: through, -2 and -4");
        Asked x = some();
        for (int order : NO_ORDERS) {
            for (int c : Asked.NO_CODES) {
                x.through(order, c, 0).is(-2);
                x.through(order, 0, c).is(-2);
                x.through(order, c, c).is(-2);
            }
        }
    }

    private static void alsoOutsideAndNotForThisKind() {
        due.about("the first one of these: also, -4 and -5");
        Asked x = some();
        for (int order = 0; order < 2; order++) {
            for (int c : Asked.NO_CODES) {
                x.also(order, c, 0).is(-4);
                x.also(order, 255, c).is(-4);
                x.also(order, c, c).is(-4);
            }
        }
    }

    private static void throughOutsideAndNotForThisKind() {
        due.about("the first one of these: through, -4 and -5");
        Asked x = some();
        for (int order = 0; order < 2; order++) {
            for (int c : Asked.NO_CODES) {
                x.through(order, c, 0).is(-4);
                x.through(order, 255, c).is(-4);
                x.through(order, c, c).is(-4);
            }
        }
    }

    private static void signNoTextAndOutside() {
        due.about("the first one of these: sign, -2 and -4");
        Asked x = some();
        for (int text : NO_TEXTS) {
            for (int c : Asked.NO_CODES) {
                x.sign(text, c).is(-2);
            }
        }
    }

    private static void signOutsideAndNoRoom() {
        due.about("the first one of these: sign, -4 and NONE");
        Asked x = some();
        for (int c : Asked.NO_CODES) {
            x.sign(1, c).is(-4);
        }
        x.sign(1, 0).is(NONE);
    }

    private static void signNoTextAndNoRoom() {
        due.about("the first one of these: sign, -2 and NONE");
        Asked x = some();
        for (int n = 2; n < 40; n++) {
            x.text();
        }
        x.text().is(NONE);
        for (int text : new int[] {-1, 40, MIN, MAX}) {
            x.sign(text, 0).is(-2);
            x.sign(text, 256).is(-2);
        }
    }

    private static void rankNoOrderAndOutside() {
        due.about("the first one of these: rank, -2 and -4");
        Asked x = some();
        for (int order : NO_ORDERS) {
            for (int c : Asked.NO_CODES) {
                x.rank(order, c).is(-2);
            }
        }
    }

    /** An answer of 0 is no refusal: it is given only to a call that could be carried out. */
    private static void refusedBeforeZero() {
        due.about("or refused (where the numbers that are inside would answer 0)");
        Asked x = some();
        x.through(2, 65, 66);
        for (int c : Asked.NO_CODES) {
            x.set(0, c, 65).is(-4);
            x.also(2, c, 65).is(-4);
            x.also(2, 99, c).is(-4);
            x.through(2, 65, c).is(-4);
            x.through(2, c, 66).is(-4);
        }
        x.set(0, 64, 65).is(0);
        x.also(2, 99, 65).is(0);
        x.through(2, 65, 67).is(0);
        x.set(3, 64, 65).is(-2);
        x.also(3, 99, 65).is(-2);
        x.through(3, 65, 67).is(-2);
        x.also(0, 99, 65).is(-5);
        x.through(1, 65, 67).is(-5);
    }
}
