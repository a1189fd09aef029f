import java.util.function.Consumer;

/**
 * "An object is used for at most 512 calls after it has been made": up to the 512th each answer is due,
 * whichever call comes last, and however often the same one came before.
 */
public final class LastCallTest {
    private static final int NONE = CodePages.NONE;
    private static final Due due = new Due();

    public static void main(String[] args) {
        due.about("at most 512 calls: the last one is answered as any other");
        lastOfPages();
        lastOfOrders();
        lastOfTexts();
        lastOfSigns();
        due.about("at most 512 calls: the same call again and again");
        sameCallOfPages();
        sameCallOfOrders();
        sameCallOfTexts();
        sameRefusals();
        due.end();
    }

    /** Pages 0 .. 2 and orders 0 .. 2 by kind, an alphabet with three codes, texts 0 and 1, and 200 listed. */
    private static Asked made() {
        Asked x = new Asked(due);
        for (int kind = 0; kind < 3; kind++) {
            x.page(kind).is(kind);
            x.order(kind).is(kind);
        }
        x.through(2, 67, 66).is(2);
        x.also(2, 66, 98).is(1);
        x.text().is(0);
        x.text().is(1);
        x.sign(0, 65).is(1);
        x.sign(1, 66).is(1);
        x.translate(200, 0, 1).is(63);
        return x;
    }

    /** The 512th call of an object; those before it ask, or are refused, and change nothing. */
    private static void last(Consumer<Asked> call) {
        Asked x = made();
        while (x.calls() < Asked.MOST_CALLS - 1) {
            pad(x, x.calls() % 8);
        }
        call.accept(x);
        due.is("calls of the object", x.calls(), Asked.MOST_CALLS);
    }

    private static void pad(Asked x, int which) {
        switch (which) {
            case 0: x.row(1, 1).is(180); break;
            case 1: x.rank(2, 98).is(1); break;
            case 2: x.compare(2, 0, 1).is(1); break;
            case 3: x.set(0, 64, 65).is(0); break;
            case 4: x.through(0, 65, 66).is(-5); break;
            case 5: x.sign(0, 256).is(-4); break;
            case 6: x.told(0).is(200); break;
            default: x.rowThrows(3, 0); break;
        }
    }

    private static void lastOfPages() {
        for (int kind = 0; kind < 3; kind++) {
            int asked = kind;
            last(x -> x.page(asked).is(3));
        }
        last(x -> x.page(3).is(-4));
        last(x -> x.set(2, 255, 65535).is(1));
        last(x -> x.set(0, 255, 65).is(0));
        last(x -> x.set(0, 65, NONE).is(1));
        last(x -> x.row(1, 255).is(102));
        last(x -> x.row(0, 128).is(NONE));
        last(x -> x.rowThrows(0, 256));
        last(x -> x.rowThrows(3, 0));
        last(x -> x.standIn(0, 64).is(63));
        last(x -> x.translate(65, 0, 1).is(172));
        last(x -> x.translate(65, 0, 2).is(63));
        last(x -> x.told(0).is(200));
        last(x -> x.told(1).is(NONE));
    }

    private static void lastOfOrders() {
        for (int kind = 0; kind < 3; kind++) {
            int asked = kind;
            last(x -> x.order(asked).is(3));
        }
        last(x -> x.order(3).is(-4));
        last(x -> x.also(2, 67, 99).is(1));
        last(x -> x.also(2, 66, 98).is(0));
        last(x -> x.also(1, 66, 98).is(-5));
        last(x -> x.through(2, 255, 99).is(157));
        last(x -> x.through(2, 98, 99).is(0));
        last(x -> x.through(3, 98, 99).is(-2));
        last(x -> x.high(2).is(255));
        last(x -> x.rank(2, 66).is(1));
        last(x -> x.rank(2, 99).is(98));
    }

    private static void lastOfTexts() {
        last(x -> x.text().is(2));
        last(x -> x.sign(0, 255).is(2));
        last(x -> x.sign(2, 255).is(-2));
        last(x -> x.whole(0, 0, 1).is(0));
        last(x -> x.whole(0, 0, 2).is(1));
        last(x -> x.at(1, 0).is(66));
        last(x -> x.at(1, 1).is(NONE));
        last(x -> x.compare(0, 0, 1).is(-1));
        last(x -> x.compare(2, 0, 1).is(1));
        last(x -> x.compare(2, 1, 1).is(0));
    }

    private static void lastOfSigns() {
        last(x -> x.cls(65, 2).is(true));
        last(x -> x.cls(65, 3).is(false));
        last(x -> x.print(171, 0).is(65));
        last(x -> x.print(171, 2).is(45));
        last(x -> x.print(256, 0).is(0));
    }

    /** All that are left of an object's 512 calls; the n-th one, from 0 on, is handed its number. */
    private static void allThatAreLeft(Asked x, Consumer<Integer> call) {
        int left = Asked.MOST_CALLS - x.calls();
        for (int n = 0; n < left; n++) {
            call.accept(n);
        }
        due.is("calls of the object", x.calls(), Asked.MOST_CALLS);
    }

    private static void sameCallOfPages() {
        Asked pages = new Asked(due);
        allThatAreLeft(pages, n -> pages.page(1).is(n < 12 ? n : NONE));
        Asked set = new Asked(due);
        set.page(2);
        allThatAreLeft(set, n -> set.set(0, n % 256, 65535 - n).is(1));
        Asked standIn = new Asked(due);
        standIn.page(2);
        allThatAreLeft(standIn, n -> standIn.standIn(0, n % 256).is(n == 0 ? 63 : (n - 1) % 256));
        Asked translate = new Asked(due);
        translate.page(2);
        allThatAreLeft(translate, n -> translate.translate(n % 256, 0, 0).is(63));
        Asked listed = new Asked(due);
        listed.page(2);
        for (int n = 0; n < 255; n++) {
            listed.translate(n, 0, 0);
        }
        allThatAreLeft(listed, n -> listed.told(n).is(n < 200 ? n : NONE));
    }

    private static void sameCallOfOrders() {
        Asked orders = new Asked(due);
        orders.page(1);
        allThatAreLeft(orders, n -> orders.order(1).is(n < 12 ? n : NONE));
        // A code alone at each call: the alphabet is full behind the 256th.
        Asked through = new Asked(due);
        through.order(2);
        allThatAreLeft(through, n -> through.through(0, n % 256, n % 256).is(n < 256 ? 1 : 0));
        Asked also = new Asked(due);
        also.order(2);
        also.through(0, 0, 0);
        allThatAreLeft(also, n -> also.also(0, 0, (n + 1) % 256).is(n < 255 ? 1 : 0));
    }

    private static void sameCallOfTexts() {
        Asked texts = new Asked(due);
        allThatAreLeft(texts, n -> texts.text().is(n < 40 ? n : NONE));
        Asked signs = new Asked(due);
        signs.text();
        allThatAreLeft(signs, n -> signs.sign(0, n % 256).is(n < 40 ? n + 1 : NONE));
        Asked whole = new Asked(due);
        whole.page(2);
        whole.textOfMany(40, 65);
        allThatAreLeft(whole, n -> whole.whole(0, 0, 0).is(40));
        Asked compare = new Asked(due);
        compare.order(0);
        compare.textOfMany(40, 65);
        compare.textOfMany(39, 65);
        allThatAreLeft(compare, n -> compare.compare(0, 0, 1).is(1));
    }

    private static void sameRefusals() {
        Asked row = new Asked(due);
        allThatAreLeft(row, n -> row.rowThrows(n % 12, n % 256));
        Asked outside = new Asked(due);
        allThatAreLeft(outside, n -> outside.page(3 + n).is(-4));
        Asked none = new Asked(due);
        allThatAreLeft(none, n -> none.rank(n % 12, n).is(-2));
    }
}
