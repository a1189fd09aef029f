/** The boundary cases of the document's "Terms": a test for each sentence, on both sides of its boundary. */
public final class TermsBoundsTest {
    private static final int MIN = Asked.MIN;
    private static final int MAX = Asked.MAX;
    private static final int NONE = CodePages.NONE;
    private static final Due due = new Due();

    public static void main(String[] args) {
        codesInside();
        codesOutside();
        meaningsInside();
        meaningsOutside();
        noTwoMeanTheSame();
        pageNumbers();
        pagesOfKindZero();
        pagesOfKindOne();
        pagesOfKindTwo();
        standInsAtFirst();
        orderNumbers();
        nativeOrder();
        codesWithoutAMeaning();
        allOrNoneHaveAMeaning();
        withoutAPageZero();
        pageZeroWhenTheOrderIsMade();
        alphabetWithNoCode();
        nextRankEach();
        allThatArentTold();
        textNumbers();
        codesOfAText();
        shorterOneFilled();
        filledByRank();
        due.end();
    }

    private static void codesInside() {
        due.about("CODES are 0 .. 255. (inside)");
        for (int c : new int[] {0, 255}) {
            Asked x = new Asked(due);
            x.page(2);
            x.order(2);
            x.text();
            x.set(0, c, 300).is(1);
            x.row(0, c).is(300);
            x.standIn(0, c).is(63);
            x.translate(c, 0, 0).is(c);
            x.rank(0, c).is(c);
            x.through(0, c, c).is(1);
            x.through(0, c, 100).is(0);
            x.through(0, 100, c).is(0);
            x.also(0, c, 7).is(1);
            x.also(0, 7, c).is(0);
            x.sign(0, c).is(1);
            x.at(0, 0).is(c);
            x.print(c, 0).is(c == 0 ? 48 : 70);
            x.cls(c, 5).is(c == 0);
        }
        Asked x = new Asked(due);
        x.order(2);
        x.through(0, 0, 255).is(256);
    }

    private static void codesOutside() {
        due.about("CODES are 0 .. 255. (outside)");
        for (int c : Asked.NO_CODES) {
            Asked x = new Asked(due);
            x.page(1);
            x.order(2);
            x.text();
            x.through(0, 65, 65);
            x.set(0, c, 300).is(-4);
            x.rowThrows(0, c);
            x.standIn(0, c).is(-4);
            x.translate(c, 0, 0).is(-4);
            x.rank(0, c).is(-4);
            x.through(0, c, c).is(-4);
            x.through(0, c, 100).is(-4);
            x.through(0, 100, c).is(-4);
            x.also(0, c, 7).is(-4);
            x.also(0, 65, c).is(-4);
            x.sign(0, c).is(-4);
            for (int i = 0; i < 6; i++) {
                x.print(c, i).is(0);
                x.cls(c, i).is(false);
            }
        }
    }

    private static void meaningsInside() {
        due.about("a number 0 .. 65535, or nothing (inside)");
        Asked x = new Asked(due);
        x.page(2);
        int[] meanings = {0, 1, 255, 256, 32767, 32768, 65534, 65535, NONE};
        for (int i = 0; i < meanings.length; i++) {
            x.set(0, i, meanings[i]).is(1);
        }
        for (int i = 0; i < meanings.length; i++) {
            x.row(0, i).is(meanings[i]);
        }
        for (int i = 0; i < meanings.length - 1; i++) {
            x.translate(i, 0, 0).is(i);
        }
    }

    private static void meaningsOutside() {
        due.about("a number 0 .. 65535, or nothing (outside)");
        Asked x = new Asked(due);
        x.page(0);
        for (int u : new int[] {-2, 65536, MIN, MAX, -65536, 65536 + 200, MIN + 200, -65535}) {
            x.set(0, 0, u).is(-4);
            x.set(0, 255, u).is(-4);
        }
        x.row(0, 0).is(0);
        x.row(0, 255).is(NONE);
    }

    private static void noTwoMeanTheSame() {
        due.about("no two codes of a page mean the same");
        for (int u : new int[] {0, 1, 127, 255, 256, 65534, 65535}) {
            for (int holder : new int[] {0, 128, 255}) {
                Asked x = new Asked(due);
                x.page(2);
                x.page(2);
                x.set(0, holder, u).is(1);
                for (int i : new int[] {0, 1, 127, 128, 254, 255}) {
                    x.set(0, i, u).is(i == holder ? 1 : 0);
                    x.row(0, i).is(i == holder ? u : NONE);
                }
                // A page is its own: another one may mean the same by another code.
                x.set(1, 7, u).is(1);
            }
        }
        Asked x = new Asked(due);
        x.page(1);
        // Kind 1 means each of 0 .. 255 once, so each of them is taken for every other code.
        for (int i = 0; i < 256; i++) {
            x.set(0, 100, i).is(i == ((167 * 100 + 13) & 255) ? 1 : 0);
        }
        x.set(0, 100, 256).is(1);
    }

    private static void pageNumbers() {
        due.about("Pages are numbered from 0 on (at most 12)");
        Asked x = new Asked(due);
        for (int n = 0; n < 12; n++) {
            x.rowThrows(n, 0);
            x.page(2).is(n);
            x.row(n, 0).is(NONE);
            x.set(n, 0, n).is(1);
        }
        x.page(2).is(NONE);
        x.page(2).is(NONE);
        for (int n = 0; n < 12; n++) {
            x.row(n, 0).is(n);
        }
        for (int n : new int[] {-1, 12, 13, MIN, MAX}) {
            x.rowThrows(n, 0);
            x.set(n, 0, 0).is(-2);
            x.standIn(n, 0).is(-2);
            x.translate(0, n, 0).is(-2);
            x.translate(0, 0, n).is(-2);
        }
    }

    private static void pagesOfKindZero() {
        due.about("0 codes 0 .. 127 mean themselves, others nothing");
        Asked x = new Asked(due);
        x.page(0);
        x.row(0, 0).is(0);
        x.row(0, 1).is(1);
        x.row(0, 126).is(126);
        x.row(0, 127).is(127);
        x.row(0, 128).is(NONE);
        x.row(0, 129).is(NONE);
        x.row(0, 254).is(NONE);
        x.row(0, 255).is(NONE);
    }

    private static void pagesOfKindOne() {
        due.about("1 code i means (167 * i + 13) modulo 256");
        Asked x = new Asked(due);
        x.page(1);
        x.row(0, 0).is(13);
        // 167 * 1 + 13 = 180 is still below 256, 167 * 2 + 13 = 347 is the first that wraps.
        x.row(0, 1).is(180);
        x.row(0, 2).is(347 - 256);
        x.row(0, 254).is(42431 - 165 * 256);
        x.row(0, 255).is(42598 - 166 * 256);
        // Some code means 0, the least number, and some code 255, the greatest.
        x.page(2);
        x.set(1, 0, 0).is(1);
        x.set(1, 255, 255).is(1);
        int least = (int) x.translate(0, 1, 0).got();
        int greatest = (int) x.translate(255, 1, 0).got();
        x.row(0, least).is(0);
        x.row(0, greatest).is(255);
    }

    private static void pagesOfKindTwo() {
        due.about("2 nothing");
        Asked x = new Asked(due);
        x.page(2);
        for (int i = 0; i < 256; i++) {
            x.row(0, i).is(NONE);
        }
    }

    private static void standInsAtFirst() {
        due.about("Each has a STAND-IN (63 at first).");
        Asked x = new Asked(due);
        for (int n = 0; n < 12; n++) {
            x.page(n % 3);
        }
        x.translate(200, 0, 2).is(63);
        for (int n = 0; n < 12; n++) {
            x.standIn(n, n).is(63);
        }
        for (int n = 0; n < 12; n++) {
            x.standIn(n, 255).is(n);
        }
    }

    private static void orderNumbers() {
        due.about("Orders are numbered from 0 on (at most 12)");
        Asked x = new Asked(due);
        x.text();
        for (int n = 0; n < 12; n++) {
            x.high(n).is(-2);
            x.order(2).is(n);
            x.high(n).is(255);
            x.through(n, 255 - n, 255 - n).is(1);
        }
        x.order(2).is(NONE);
        x.order(2).is(NONE);
        for (int n = 0; n < 12; n++) {
            x.rank(n, 255 - n).is(0);
        }
        for (int n : new int[] {-1, 12, 13, MIN, MAX}) {
            x.high(n).is(-2);
            x.rank(n, 0).is(-2);
            x.also(n, 0, 1).is(-2);
            x.through(n, 0, 1).is(-2);
            x.compare(n, 0, 0).is(-2);
        }
    }

    private static void nativeOrder() {
        due.about("by kind: 0 native, by code");
        Asked x = new Asked(due);
        // Neither a page nor another order has a say in it.
        x.page(1);
        x.order(2);
        x.through(0, 255, 0);
        x.order(0).is(1);
        x.ranksNatively(1);
        x.high(1).is(255);
    }

    private static void codesWithoutAMeaning() {
        due.about("codes without a meaning behind those, natively");
        Asked x = new Asked(due);
        x.page(2);
        x.set(0, 255, 65535);
        x.set(0, 128, 0);
        x.set(0, 3, 65534);
        x.order(1).is(0);
        // The greatest meaning still stands before the first code without one.
        x.ranksAre(0, 128, 3, 255, 0, 1, 2, 4, 5);
        x.rank(0, 127).is(129);
        x.rank(0, 129).is(130);
        x.rank(0, 253).is(254);
        x.rank(0, 254).is(255);
        x.high(0).is(254);
        Asked y = new Asked(due);
        y.page(0);
        y.set(0, 0, NONE);
        y.set(0, 127, NONE);
        y.order(1);
        y.ranksAre(0, 1, 2, 3);
        y.rank(0, 126).is(125);
        y.rank(0, 0).is(126);
        y.rank(0, 127).is(127);
        y.rank(0, 128).is(128);
        y.rank(0, 255).is(255);
    }

    private static void allOrNoneHaveAMeaning() {
        due.about("codes without a meaning behind those, natively (none, one, all but one, all)");
        Asked none = new Asked(due);
        none.page(2);
        none.order(1);
        none.ranksNatively(0);
        Asked one = new Asked(due);
        one.page(2);
        one.set(0, 255, 65535);
        one.order(1);
        one.ranksAre(0, 255, 0, 1);
        one.rank(0, 254).is(255);
        Asked allButOne = new Asked(due);
        allButOne.page(1);
        allButOne.set(0, 0, NONE);
        allButOne.order(1);
        allButOne.rank(0, 0).is(255);
        allButOne.high(0).is(0);
        Asked all = new Asked(due);
        all.page(1);
        all.order(1);
        for (int c = 0; c < 256; c++) {
            all.rank(0, c).is((167 * c + 13) & 255);
        }
    }

    private static void withoutAPageZero() {
        due.about("without a page 0 natively");
        Asked x = new Asked(due);
        x.order(1).is(0);
        x.ranksNatively(0);
        x.high(0).is(255);
        // The first page is the boundary: an order made behind it goes by it.
        x.page(1);
        x.order(1).is(1);
        x.rank(1, 0).is(13);
        x.rank(1, 1).is(180);
        x.rank(0, 1).is(1);
    }

    private static void pageZeroWhenTheOrderIsMade() {
        due.about("as it is when the order is made");
        Asked x = new Asked(due);
        x.page(2);
        x.set(0, 200, 10);
        x.order(1);
        x.set(0, 201, 9);
        x.order(1);
        x.set(0, 200, NONE);
        x.set(0, 201, NONE);
        x.order(1);
        x.ranksAre(0, 200, 0, 1, 2);
        x.ranksAre(1, 201, 200, 0, 1, 2);
        x.ranksNatively(2);
        // Pages other than 0 are not looked at, whatever they mean.
        Asked y = new Asked(due);
        y.page(2);
        y.page(1);
        y.order(1);
        y.ranksNatively(0);
    }

    private static void alphabetWithNoCode() {
        due.about("2 an ALPHABET, with no code in it at first");
        Asked x = new Asked(due);
        x.page(1);
        x.order(2);
        x.ranksNatively(0);
        x.high(0).is(255);
        x.also(0, 0, 255).is(0);
        x.also(0, 255, 0).is(0);
        x.through(0, 0, 255).is(256);
    }

    private static void nextRankEach() {
        due.about("codes that are told get the next rank each, from 0 on");
        Asked x = new Asked(due);
        x.order(2);
        x.through(0, 255, 255).is(1);
        x.rank(0, 255).is(0);
        x.through(0, 9, 10).is(2);
        x.rank(0, 9).is(1);
        x.rank(0, 10).is(2);
        // An equal sign takes no rank, so the next one told goes on where the last one stopped.
        x.also(0, 10, 0).is(1);
        x.through(0, 1, 1).is(1);
        x.rank(0, 1).is(3);
    }

    private static void allThatArentTold() {
        due.about("all that aren't stand behind, natively");
        Asked x = new Asked(due);
        x.order(2);
        x.through(0, 1, 254).is(254);
        x.rank(0, 254).is(253);
        x.rank(0, 0).is(254);
        x.rank(0, 255).is(255);
        x.through(0, 255, 255).is(1);
        x.rank(0, 255).is(254);
        x.rank(0, 0).is(255);
        x.through(0, 0, 0).is(1);
        x.rank(0, 0).is(255);
    }

    private static void textNumbers() {
        due.about("TEXTS are numbered from 0 on (at most 40)");
        Asked x = new Asked(due);
        x.order(0);
        x.page(2);
        for (int n = 0; n < 40; n++) {
            x.sign(n, n).is(-2);
            x.text().is(n);
            x.sign(n, n).is(1);
        }
        x.text().is(NONE);
        x.text().is(NONE);
        for (int n = 0; n < 40; n++) {
            x.at(n, 0).is(n);
            x.at(n, 1).is(NONE);
        }
        for (int n : new int[] {-1, 40, 41, MIN, MAX}) {
            x.sign(n, 0).is(-2);
            x.whole(n, 0, 0).is(-2);
            x.at(n, 0).is(NONE);
            x.compare(0, n, 0).is(-2);
            x.compare(0, 0, n).is(-2);
        }
    }

    private static void codesOfAText() {
        due.about("each of up to 40 codes");
        Asked x = new Asked(due);
        x.text();
        x.text();
        for (int k = 0; k < 40; k++) {
            x.at(0, k).is(NONE);
            x.sign(0, 255 - k).is(k + 1);
            x.at(0, k).is(255 - k);
        }
        x.sign(0, 0).is(NONE);
        x.sign(0, 0).is(NONE);
        x.at(0, 39).is(216);
        x.at(0, 40).is(NONE);
        // A full text leaves the others their room.
        x.sign(1, 0).is(1);
    }

    private static void shorterOneFilled() {
        due.about("the shorter one filled with 32");
        for (int length : new int[] {0, 1, 38, 39}) {
            Asked x = new Asked(due);
            x.order(0);
            int shorter = x.textOfMany(length, 65);
            int[] last = {0, 31, 32, 33, 255};
            int[] want = {1, 1, 0, -1, -1};
            for (int k = 0; k < last.length; k++) {
                int longer = x.textOfMany(length, 65);
                x.sign(longer, last[k]);
                x.comparesAs(0, shorter, longer, want[k]);
            }
        }
        Asked x = new Asked(due);
        x.order(0);
        int empty = x.textOf();
        int full = x.textOfMany(40, 32);
        x.comparesAs(0, empty, full, 0);
        x.comparesAs(0, empty, empty, 0);
        int lastIsMore = x.textOfMany(39, 32);
        x.sign(lastIsMore, 33);
        x.comparesAs(0, empty, lastIsMore, -1);
        x.comparesAs(0, full, lastIsMore, -1);
        int lastIsLess = x.textOfMany(39, 32);
        x.sign(lastIsLess, 31);
        x.comparesAs(0, empty, lastIsLess, 1);
        x.comparesAs(0, lastIsLess, lastIsMore, -1);
    }

    private static void filledByRank() {
        due.about("COMPARED code by code, by rank, the shorter one filled with 32");
        Asked x = new Asked(due);
        x.page(2);
        x.set(0, 32, 65535);
        x.set(0, 33, 0);
        x.set(0, 31, 65534);
        int byPage = (int) x.order(1).got();
        int alphabet = (int) x.order(2).got();
        x.through(alphabet, 33, 31);
        x.also(alphabet, 32, 95);
        int empty = x.textOf();
        int with31 = x.textOf(31);
        int with33 = x.textOf(33);
        int with34 = x.textOf(34);
        int with95 = x.textOf(95);
        // By what page 0 means, 33 and 31 come before 32, and 34 and 95 mean nothing.
        x.comparesAs(byPage, empty, with31, 1);
        x.comparesAs(byPage, empty, with33, 1);
        x.comparesAs(byPage, empty, with34, -1);
        x.comparesAs(byPage, empty, with95, -1);
        // In the alphabet 33 is before 32, 31 behind it, and 95 is its equal.
        x.comparesAs(alphabet, empty, with33, 1);
        x.comparesAs(alphabet, empty, with31, -1);
        x.comparesAs(alphabet, empty, with95, 0);
        x.comparesAs(alphabet, empty, with34, -1);
        // The first difference decides, however much comes behind it.
        int first = x.textOf(33, 34, 34);
        int second = x.textOf(32, 33);
        x.comparesAs(alphabet, first, second, -1);
    }
}
