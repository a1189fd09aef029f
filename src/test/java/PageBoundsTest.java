/** The boundary cases of promises 1 to 7: a test for each sentence, on both sides of its boundary. */
public final class PageBoundsTest {
    private static final int MIN = Asked.MIN;
    private static final int MAX = Asked.MAX;
    private static final int NONE = CodePages.NONE;
    private static final int[] NO_PAGES = {-1, 1, 11, 12, MIN, MAX};
    private static final Due due = new Due();

    public static void main(String[] args) {
        noPagesAtFirst();
        noOrdersAtFirst();
        noTextsAtFirst();
        nothingListedAtFirst();
        objectsAreApart();
        pageIsItsNumber();
        pageOutside();
        pageWithoutRoom();
        setToNothing();
        setWhatAnotherMeans();
        setToWhatItMeans();
        setRefused();
        rowOfNothing();
        rowWithoutThePage();
        rowOfNoCode();
        standInWas();
        standInRefused();
        translateFound();
        translateFoundNone();
        translateFromNothing();
        translateRefused();
        toldFromZeroOn();
        toldTheLastThatIsKept();
        toldNone();
        due.end();
    }

    private static void noPagesAtFirst() {
        due.about("Promise 1: No pages");
        Asked x = new Asked(due);
        for (int n : new int[] {0, 1, 11, 12, -1, MIN, MAX}) {
            x.rowThrows(n, 0);
            x.set(n, 0, 0).is(-2);
            x.standIn(n, 0).is(-2);
            x.translate(0, n, n).is(-2);
        }
        x.page(0).is(0);
    }

    private static void noOrdersAtFirst() {
        due.about("Promise 1: No orders");
        Asked x = new Asked(due);
        x.text();
        for (int n : new int[] {0, 1, 11, 12, -1, MIN, MAX}) {
            x.also(n, 0, 1).is(-2);
            x.through(n, 0, 1).is(-2);
            x.compare(n, 0, 0).is(-2);
            x.high(n).is(-2);
            x.rank(n, 0).is(-2);
        }
        x.order(0).is(0);
    }

    private static void noTextsAtFirst() {
        due.about("Promise 1: No texts");
        Asked x = new Asked(due);
        x.page(0);
        x.order(0);
        for (int n : new int[] {0, 1, 39, 40, -1, MIN, MAX}) {
            x.sign(n, 0).is(-2);
            x.whole(n, 0, 0).is(-2);
            x.at(n, 0).is(NONE);
            x.compare(0, n, n).is(-2);
        }
        x.text().is(0);
    }

    private static void nothingListedAtFirst() {
        due.about("Promise 1: nothing is listed");
        Asked x = new Asked(due);
        for (int i : new int[] {0, 1, 199, 200, -1, MIN, MAX}) {
            x.told(i).is(NONE);
        }
    }

    private static void objectsAreApart() {
        due.about("Promise 1: A new object (beside another one)");
        Asked x = new Asked(due);
        x.page(2);
        x.order(2);
        x.textOf(65);
        x.translate(7, 0, 0);
        Asked y = new Asked(due);
        y.rowThrows(0, 0);
        y.high(0).is(-2);
        y.at(0, 0).is(NONE);
        y.sign(0, 65).is(-2);
        y.told(0).is(NONE);
        x.told(0).is(7);
    }

    private static void pageIsItsNumber() {
        due.about("Promise 2: its number");
        for (int kind = 0; kind < 3; kind++) {
            Asked x = new Asked(due);
            for (int n = 0; n < 12; n++) {
                x.page(kind).is(n);
                // A page that is refused takes no number.
                x.page(3).is(-4);
            }
        }
    }

    private static void pageOutside() {
        due.about("Promise 2: -4");
        Asked x = new Asked(due);
        for (int kind : new int[] {-1, 3, MIN, MAX, 256, MIN + 1}) {
            x.page(kind).is(-4);
        }
        x.rowThrows(0, 0);
        x.page(0).is(0);
        x.page(2).is(1);
    }

    private static void pageWithoutRoom() {
        due.about("Promise 2: NONE");
        for (int kind = 0; kind < 3; kind++) {
            Asked x = new Asked(due);
            for (int n = 0; n < 11; n++) {
                x.page(2);
            }
            x.page(kind).is(11);
            x.page(kind).is(NONE);
            x.page(0).is(NONE);
            x.page(1).is(NONE);
            x.page(2).is(NONE);
            x.row(11, 0).is(new int[] {0, 13, NONE}[kind]);
            x.rowThrows(12, 0);
        }
    }

    private static void setToNothing() {
        due.about("Promise 3: (NONE: nothing)");
        Asked x = new Asked(due);
        x.page(0);
        x.set(0, 0, NONE).is(1);
        x.set(0, 127, NONE).is(1);
        x.set(0, 255, NONE).is(1);
        x.set(0, 0, NONE).is(1);
        x.row(0, 0).is(NONE);
        x.row(0, 127).is(NONE);
        x.row(0, 255).is(NONE);
        // What a code no longer means is free for another one.
        x.set(0, 255, 0).is(1);
        x.set(0, 0, 0).is(0);
        x.set(0, 255, NONE).is(1);
        x.set(0, 0, 0).is(1);
        // -2 is the first number below nothing, and is outside.
        x.set(0, 0, -2).is(-4);
        x.row(0, 0).is(0);
    }

    private static void setWhatAnotherMeans() {
        due.about("Promise 3: 0, changing nothing, when another code of it means that");
        Asked x = new Asked(due);
        x.page(0);
        x.page(0);
        x.set(0, 255, 65535).is(1);
        x.set(0, 0, 65535).is(0);
        x.set(0, 0, 127).is(0);
        x.set(0, 255, 0).is(0);
        x.row(0, 0).is(0);
        x.row(0, 127).is(127);
        x.row(0, 255).is(65535);
        x.translate(0, 0, 0).is(0);
        x.translate(255, 0, 0).is(255);
        // 128 is the first number that no code of this page means.
        x.set(0, 200, 127).is(0);
        x.set(0, 200, 128).is(1);
        // Another page means it too, but that is not a code of this one.
        x.set(1, 0, 65535).is(1);
        x.row(1, 0).is(65535);
        x.row(0, 0).is(0);
    }

    private static void setToWhatItMeans() {
        due.about("Promise 3: when another code of it means that (and not the code itself)");
        Asked x = new Asked(due);
        x.page(0);
        x.set(0, 0, 0).is(1);
        x.set(0, 127, 127).is(1);
        x.set(0, 255, 65535).is(1);
        x.set(0, 255, 65535).is(1);
        x.row(0, 0).is(0);
        x.row(0, 127).is(127);
        x.row(0, 255).is(65535);
    }

    private static void setRefused() {
        due.about("Promise 3: or refused");
        Asked x = new Asked(due);
        x.page(2);
        for (int page : NO_PAGES) {
            x.set(page, 0, 0).is(-2);
        }
        for (int i : Asked.NO_CODES) {
            x.set(0, i, 0).is(-4);
            x.set(0, i, 65535).is(-4);
            x.set(0, i, NONE).is(-4);
        }
        for (int u : new int[] {-2, 65536, MIN, MAX}) {
            x.set(0, 0, u).is(-4);
            x.set(0, 255, u).is(-4);
        }
        for (int i = 0; i < 256; i++) {
            x.row(0, i).is(NONE);
        }
    }

    private static void rowOfNothing() {
        due.about("Promise 4: NONE nothing");
        Asked x = new Asked(due);
        x.page(0);
        x.row(0, 127).is(127);
        x.row(0, 128).is(NONE);
        x.row(0, 255).is(NONE);
        x.set(0, 255, 65535);
        x.row(0, 255).is(65535);
        x.set(0, 255, 0);
        x.row(0, 255).is(65535);
        x.set(0, 255, NONE);
        x.row(0, 255).is(NONE);
        x.row(0, 0).is(0);
    }

    private static void rowWithoutThePage() {
        due.about("Promise 4: ArrayIndexOutOfBoundsException when there is no such page");
        Asked x = new Asked(due);
        for (int n = 0; n < 12; n++) {
            x.rowThrows(n, 0);
            x.rowThrows(n, 255);
            x.page(0);
            x.row(n, 0).is(0);
            x.row(n, 255).is(NONE);
        }
        for (int page : new int[] {-1, 12, MIN, MAX}) {
            x.rowThrows(page, 0);
            x.rowThrows(page, 255);
            x.rowThrows(page, 256);
        }
    }

    private static void rowOfNoCode() {
        due.about("Promise 4: ArrayIndexOutOfBoundsException when i is no code");
        Asked x = new Asked(due);
        x.page(1);
        x.page(0);
        for (int i : Asked.NO_CODES) {
            x.rowThrows(0, i);
            x.rowThrows(1, i);
            x.rowThrows(2, i);
        }
        x.row(0, 0).is(13);
        x.row(0, 255).is(102);
        x.row(1, 0).is(0);
    }

    private static void standInWas() {
        due.about("Promise 5: what it was");
        Asked x = new Asked(due);
        x.page(2);
        x.page(2);
        x.standIn(0, 0).is(63);
        x.standIn(0, 255).is(0);
        x.standIn(0, 255).is(255);
        x.standIn(0, 63).is(255);
        x.standIn(1, 0).is(63);
        x.translate(5, 0, 0).is(63);
        x.translate(5, 0, 1).is(0);
        x.standIn(1, 255).is(0);
        x.translate(5, 0, 1).is(255);
    }

    private static void standInRefused() {
        due.about("Promise 5: or refused");
        Asked x = new Asked(due);
        x.page(2);
        for (int page : NO_PAGES) {
            x.standIn(page, 0).is(-2);
            x.standIn(page, 255).is(-2);
        }
        for (int c : Asked.NO_CODES) {
            x.standIn(0, c).is(-4);
            x.translate(0, 0, 0).is(63);
        }
        x.standIn(0, 0).is(63);
    }

    private static void translateFound() {
        due.about("Promise 6: The code of page to that means what c means in page from");
        Asked x = new Asked(due);
        x.page(2);
        x.page(2);
        int[] meanings = {0, 1, 65534, 65535};
        int[] there = {0, 255, 128, 127};
        int[] here = {255, 0, 127, 128};
        for (int k = 0; k < meanings.length; k++) {
            x.set(0, here[k], meanings[k]).is(1);
            x.set(1, there[k], meanings[k]).is(1);
        }
        for (int k = 0; k < meanings.length; k++) {
            x.translate(here[k], 0, 1).is(there[k]);
            x.translate(there[k], 1, 0).is(here[k]);
            x.translate(here[k], 0, 0).is(here[k]);
        }
        // A code that is found is not listed, even if it is the stand-in.
        x.standIn(1, 0).is(63);
        x.translate(255, 0, 1).is(0);
        x.told(0).is(NONE);
    }

    private static void translateFoundNone() {
        due.about("Promise 6: if there is none: the stand-in of page to, and c is listed");
        Asked x = new Asked(due);
        x.page(0);
        x.page(2);
        x.standIn(0, 1);
        x.standIn(1, 255);
        x.translate(0, 0, 1).is(255);
        x.translate(127, 0, 1).is(255);
        x.listIs(0, 127);
        // The stand-in of page to is a code, whether it means something there or not.
        x.set(1, 255, 65535);
        x.translate(0, 0, 1).is(255);
        x.translate(255, 1, 0).is(1);
        x.listIs(0, 127, 0, 255);
        // With the meaning there is a code, and nothing more is listed.
        x.set(1, 9, 0);
        x.translate(0, 0, 1).is(9);
        x.listIs(0, 127, 0, 255);
    }

    private static void translateFromNothing() {
        due.about("Promise 6: if there is none (c means nothing in page from)");
        Asked x = new Asked(due);
        x.page(0);
        x.page(1);
        x.page(2);
        x.standIn(0, 10);
        x.standIn(1, 11);
        x.standIn(2, 12);
        x.translate(127, 0, 0).is(127);
        x.translate(128, 0, 0).is(10);
        x.translate(255, 0, 1).is(11);
        x.translate(129, 0, 2).is(12);
        x.translate(0, 2, 2).is(12);
        x.translate(1, 2, 0).is(10);
        x.listIs(128, 255, 129, 0, 1);
    }

    private static void translateRefused() {
        due.about("Promise 6: or refused");
        Asked x = new Asked(due);
        x.page(2);
        for (int page : NO_PAGES) {
            x.translate(0, page, 0).is(-2);
            x.translate(0, 0, page).is(-2);
            x.translate(255, page, page).is(-2);
        }
        for (int c : Asked.NO_CODES) {
            x.translate(c, 0, 0).is(-4);
        }
        x.told(0).is(NONE);
        x.translate(255, 0, 0).is(63);
        x.listIs(255);
    }

    private static void toldFromZeroOn() {
        due.about("Promise 7: The i-th code that was listed, from 0 on");
        Asked x = new Asked(due);
        x.page(2);
        int[] codes = {255, 0, 0, 255, 63};
        for (int k = 0; k < codes.length; k++) {
            x.told(k).is(NONE);
            x.translate(codes[k], 0, 0).is(63);
            x.told(k).is(codes[k]);
        }
        x.listIs(codes);
    }

    private static void toldTheLastThatIsKept() {
        due.about("Promise 7: (the 201st and later ones are not kept)");
        Asked x = new Asked(due);
        x.page(2);
        x.standIn(0, 5);
        for (int n = 0; n < 199; n++) {
            x.translate(n, 0, 0);
        }
        x.told(198).is(198);
        x.told(199).is(NONE);
        x.translate(199, 0, 0).is(5);
        x.told(199).is(199);
        for (int n = 200; n < 256; n++) {
            // What is not kept gets its stand-in all the same.
            x.translate(n, 0, 0).is(5);
            x.told(200).is(NONE);
        }
        for (int i : new int[] {0, 1, 198, 199}) {
            x.told(i).is(i);
        }
        for (int i : new int[] {200, 201, 254, 255, 256}) {
            x.told(i).is(NONE);
        }
    }

    private static void toldNone() {
        due.about("Promise 7: NONE when there is none");
        Asked x = new Asked(due);
        x.page(2);
        for (int i : new int[] {0, -1, 199, 200, MIN, MAX}) {
            x.told(i).is(NONE);
        }
        x.translate(7, 0, 0);
        x.told(0).is(7);
        for (int i : new int[] {1, -1, 199, 200, MIN, MAX, MIN + 1}) {
            x.told(i).is(NONE);
        }
    }
}
