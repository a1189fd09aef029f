/** The boundary cases of promises 11 to 15: a test for each sentence, on both sides of its boundary. */
public final class TextBoundsTest {
    private static final int MIN = Asked.MIN;
    private static final int MAX = Asked.MAX;
    private static final int NONE = CodePages.NONE;
    private static final int[] NO_TEXTS = {-1, 1, 39, 40, MIN, MAX};
    private static final int[] NO_PAGES = {-1, 1, 11, 12, MIN, MAX};
    private static final Due due = new Due();

    public static void main(String[] args) {
        textIsItsNumber();
        textWithoutRoom();
        signHowMany();
        signWithoutTheText();
        signOfNoCode();
        signWhenItHasForty();
        wholeEmptyAndFull();
        wholeHowManyWereListed();
        wholeAndTheListsEnd();
        wholeRefused();
        atTheEnds();
        atNone();
        compareAnswers();
        compareOneIsNone();
        due.end();
    }

    private static void textIsItsNumber() {
        due.about("Promise 11: A new empty text: its number");
        Asked x = new Asked(due);
        x.order(0);
        for (int n = 0; n < 40; n++) {
            x.text().is(n);
            x.at(n, 0).is(NONE);
            x.compare(0, 0, n).is(0);
        }
        x.sign(39, 255).is(1);
        x.sign(0, 0).is(1);
        x.at(38, 0).is(NONE);
        x.at(1, 0).is(NONE);
    }

    private static void textWithoutRoom() {
        due.about("Promise 11: NONE");
        Asked x = new Asked(due);
        for (int n = 0; n < 39; n++) {
            x.text();
        }
        x.sign(39, 65).is(-2);
        x.text().is(39);
        x.sign(39, 65).is(1);
        x.text().is(NONE);
        x.text().is(NONE);
        x.at(39, 0).is(65);
        x.sign(40, 65).is(-2);
        x.sign(39, 66).is(2);
    }

    private static void signHowMany() {
        due.about("Promise 12: how many it has");
        Asked x = new Asked(due);
        x.text();
        x.text();
        x.sign(0, 0).is(1);
        x.sign(0, 255).is(2);
        x.sign(1, 255).is(1);
        x.sign(0, 255).is(3);
        x.textIs(0, 0, 255, 255);
        x.textIs(1, 255);
    }

    private static void signWithoutTheText() {
        due.about("Promise 12: -2");
        Asked x = new Asked(due);
        x.text();
        for (int text : NO_TEXTS) {
            x.sign(text, 0).is(-2);
            x.sign(text, 255).is(-2);
        }
        x.sign(0, 0).is(1);
    }

    private static void signOfNoCode() {
        due.about("Promise 12: -4");
        Asked x = new Asked(due);
        x.text();
        for (int c : Asked.NO_CODES) {
            x.sign(0, c).is(-4);
            x.at(0, 0).is(NONE);
        }
        x.sign(0, 255).is(1);
        x.sign(0, 0).is(2);
    }

    private static void signWhenItHasForty() {
        due.about("Promise 12: NONE when it has 40");
        Asked x = new Asked(due);
        int text = x.textOfMany(39, 7);
        x.at(text, 39).is(NONE);
        x.sign(text, 255).is(40);
        x.sign(text, 0).is(NONE);
        x.sign(text, 255).is(NONE);
        x.at(text, 38).is(7);
        x.at(text, 39).is(255);
        x.at(text, 40).is(NONE);
        // Translating in place leaves it full.
        x.page(2);
        x.whole(text, 0, 0).is(40);
        x.sign(text, 0).is(NONE);
        x.at(text, 39).is(63);
    }

    private static void wholeEmptyAndFull() {
        due.about("Promise 13: A text translated from one page to another, in place");
        Asked x = new Asked(due);
        x.page(0);
        x.page(1);
        int empty = x.textOf();
        int full = x.textOfMany(39, 127);
        x.sign(full, 0).is(40);
        int beside = x.textOfMany(1, 127);
        x.whole(empty, 0, 1).is(0);
        x.at(empty, 0).is(NONE);
        x.whole(full, 0, 1).is(0);
        int became127 = (int) x.translate(127, 0, 1).got();
        int became0 = (int) x.translate(0, 0, 1).got();
        for (int k = 0; k < 39; k++) {
            x.at(full, k).is(became127);
        }
        x.at(full, 39).is(became0);
        x.at(full, 40).is(NONE);
        x.at(beside, 0).is(127);
        x.whole(full, 1, 0).is(0);
        x.at(full, 0).is(127);
        x.at(full, 39).is(0);
        // To the page it comes from: each code that means something stays.
        x.whole(full, 0, 0).is(0);
        x.at(full, 39).is(0);
        x.told(0).is(NONE);
    }

    private static void wholeHowManyWereListed() {
        due.about("Promise 13: how many of its codes were listed");
        Asked x = new Asked(due);
        x.page(0);
        x.page(0);
        x.standIn(1, 200);
        int none = x.textOf(0, 127);
        int one = x.textOf(0, 128, 127);
        int all = x.textOf(255, 128, 255);
        x.whole(none, 0, 1).is(0);
        x.told(0).is(NONE);
        x.whole(one, 0, 1).is(1);
        x.textIs(one, 0, 200, 127);
        x.listIs(128);
        x.whole(all, 0, 1).is(3);
        x.textIs(all, 200, 200, 200);
        x.listIs(128, 255, 128, 255);
        // Translated once more, the stand-ins themselves mean nothing and are listed.
        x.whole(all, 1, 0).is(3);
        x.textIs(all, 63, 63, 63);
        x.listIs(128, 255, 128, 255, 200, 200, 200);
    }

    private static void wholeAndTheListsEnd() {
        due.about("Promise 13: how many of its codes were listed (and the 201st is not kept)");
        Asked x = new Asked(due);
        x.page(2);
        x.standIn(0, 1);
        int full = x.textOfMany(40, 0);
        for (int n = 0; n < 4; n++) {
            x.whole(full, 0, 0).is(40);
        }
        int nearly = x.textOfMany(39, 2);
        x.whole(nearly, 0, 0).is(39);
        x.told(198).is(2);
        x.told(199).is(NONE);
        // One place is left: the first of these two is kept, the second one gets its stand-in too.
        int two = x.textOf(3, 4);
        x.whole(two, 0, 0).is(2);
        x.told(199).is(3);
        x.told(200).is(NONE);
        x.textIs(two, 1, 1);
        int more = x.textOf(5);
        x.whole(more, 0, 0).is(1);
        x.told(199).is(3);
        x.told(200).is(NONE);
        x.textIs(more, 1);
    }

    private static void wholeRefused() {
        due.about("Promise 13: or refused");
        Asked x = new Asked(due);
        x.page(2);
        int text = x.textOf(0, 255);
        for (int none : NO_TEXTS) {
            x.whole(none, 0, 0).is(-2);
        }
        for (int none : NO_PAGES) {
            x.whole(text, none, 0).is(-2);
            x.whole(text, 0, none).is(-2);
            x.whole(text, none, none).is(-2);
            x.whole(none, none, none).is(-2);
        }
        // An empty text has nothing to translate, and still wants its pages.
        int empty = x.textOf();
        x.whole(empty, 1, 0).is(-2);
        x.whole(empty, 0, 1).is(-2);
        x.whole(empty, 0, 0).is(0);
        x.textIs(text, 0, 255);
        x.told(0).is(NONE);
    }

    private static void atTheEnds() {
        due.about("Promise 14: The k-th code of a text");
        Asked x = new Asked(due);
        int text = x.textOf(255, 0);
        x.at(text, 0).is(255);
        x.at(text, 1).is(0);
        x.at(text, 2).is(NONE);
        int full = x.textOf();
        for (int k = 0; k < 40; k++) {
            x.sign(full, 200 + k);
        }
        for (int k = 0; k < 40; k++) {
            x.at(full, k).is(200 + k);
        }
    }

    private static void atNone() {
        due.about("Promise 14: NONE when there is none");
        Asked x = new Asked(due);
        int empty = x.textOf();
        int full = x.textOfMany(40, 65);
        int one = x.textOf(65);
        for (int k : new int[] {0, -1, 39, 40, MIN, MAX}) {
            x.at(empty, k).is(NONE);
        }
        for (int k : new int[] {-1, 40, 41, 256, MIN, MAX}) {
            x.at(full, k).is(NONE);
        }
        for (int k : new int[] {-1, 1, 39, 40, MIN, MAX}) {
            x.at(one, k).is(NONE);
        }
        // No such text is answered with NONE too, not with -2, whatever k is.
        for (int text : new int[] {-1, 3, 39, 40, MIN, MAX}) {
            for (int k : new int[] {0, -1, 40, MIN, MAX}) {
                x.at(text, k).is(NONE);
            }
        }
    }

    private static void compareAnswers() {
        due.about("Promise 15: Two texts compared by an order: -1, 0, 1");
        Asked x = new Asked(due);
        x.order(0);
        int least = x.textOf(0);
        int greatest = x.textOf(255);
        int next = x.textOf(1);
        int same = x.textOf(0);
        // However far apart the ranks are, the answer is -1 or 1.
        x.comparesAs(0, least, greatest, -1);
        x.comparesAs(0, least, next, -1);
        x.comparesAs(0, least, same, 0);
        x.comparesAs(0, least, least, 0);
        int empty = x.textOf();
        x.comparesAs(0, empty, empty, 0);
        x.comparesAs(0, empty, x.textOf(), 0);
        int full = x.textOfMany(40, 255);
        int fullToo = x.textOfMany(40, 255);
        int lastIsLess = x.textOfMany(39, 255);
        x.comparesAs(0, full, fullToo, 0);
        x.comparesAs(0, lastIsLess, full, -1);
        x.sign(lastIsLess, 254);
        x.comparesAs(0, lastIsLess, full, -1);
        int firstIsLess = x.textOf(254);
        x.comparesAs(0, firstIsLess, full, -1);
    }

    private static void compareOneIsNone() {
        due.about("Promise 15: -2 when one is none");
        Asked x = new Asked(due);
        x.order(0);
        x.textOf(65);
        for (int none : new int[] {-1, 1, 11, 12, 39, 40, MIN, MAX}) {
            x.compare(none, 0, 0).is(-2);
            x.compare(0, none, 0).is(-2);
            x.compare(0, 0, none).is(-2);
            x.compare(0, none, none).is(-2);
            x.compare(none, none, none).is(-2);
        }
        x.compare(0, 0, 0).is(0);
        x.text();
        x.compare(0, 0, 1).is(1);
        x.compare(0, 1, 2).is(-2);
    }
}
