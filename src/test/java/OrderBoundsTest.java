/** The boundary cases of promises 8 to 10, 18 and 19: a test for each sentence, on both sides of its boundary. */
public final class OrderBoundsTest {
    private static final int MIN = Asked.MIN;
    private static final int MAX = Asked.MAX;
    private static final int NONE = CodePages.NONE;
    private static final int[] NO_ORDERS = {-1, 1, 11, 12, MIN, MAX};
    private static final Due due = new Due();

    public static void main(String[] args) {
        orderIsItsNumber();
        orderOutside();
        orderWithoutRoom();
        alsoTheSameRank();
        alsoTheOneIsNotInIt();
        alsoTheOtherOneIs();
        alsoWithItself();
        alsoRefused();
        throughUpwards();
        throughDownwards();
        throughOneCode();
        throughBehindThoseOfTheAlphabet();
        throughWhatIsInIt();
        throughBesideWhatIsInIt();
        throughRefused();
        highOfTheGreatestRank();
        highOfEqualCodes();
        highOfAFullAlphabet();
        highRefused();
        rankWithoutGaps();
        rankRefused();
        due.end();
    }

    private static void orderIsItsNumber() {
        due.about("Promise 8: its number");
        for (int kind = 0; kind < 3; kind++) {
            Asked x = new Asked(due);
            for (int n = 0; n < 12; n++) {
                x.order(kind).is(n);
                // An order that is refused takes no number.
                x.order(-1).is(-4);
            }
        }
    }

    private static void orderOutside() {
        due.about("Promise 8: -4");
        Asked x = new Asked(due);
        for (int kind : new int[] {-1, 3, MIN, MAX, 256, MIN + 2}) {
            x.order(kind).is(-4);
        }
        x.high(0).is(-2);
        x.order(0).is(0);
        x.order(2).is(1);
        x.through(0, 1, 2).is(-5);
        x.through(1, 1, 2).is(2);
    }

    private static void orderWithoutRoom() {
        due.about("Promise 8: NONE");
        for (int kind = 0; kind < 3; kind++) {
            Asked x = new Asked(due);
            for (int n = 0; n < 11; n++) {
                x.order(0);
            }
            x.order(kind).is(11);
            for (int more = 0; more < 3; more++) {
                x.order(more).is(NONE);
            }
            x.through(11, 1, 2).is(kind == 2 ? 2 : -5);
            x.high(12).is(-2);
        }
    }

    private static void alsoTheSameRank() {
        due.about("Promise 9: another one that gets the same rank: 1");
        Asked x = new Asked(due);
        x.order(2);
        x.through(0, 100, 102);
        x.also(0, 100, 0).is(1);
        x.also(0, 102, 255).is(1);
        x.also(0, 255, 1).is(1);
        x.rank(0, 100).is(0);
        x.rank(0, 0).is(0);
        x.rank(0, 101).is(1);
        x.rank(0, 102).is(2);
        x.rank(0, 255).is(2);
        x.rank(0, 1).is(2);
        x.rank(0, 2).is(3);
        x.rank(0, 254).is(252);
    }

    private static void alsoTheOneIsNotInIt() {
        due.about("Promise 9: 0, changing nothing, when the one isn't in it");
        Asked x = new Asked(due);
        x.order(2);
        x.also(0, 0, 255).is(0);
        x.through(0, 100, 102);
        x.also(0, 99, 50).is(0);
        x.also(0, 103, 50).is(0);
        x.also(0, 0, 50).is(0);
        x.also(0, 255, 50).is(0);
        x.ranksAre(0, 100, 101, 102, 0, 1, 2);
        x.rank(0, 50).is(53);
        x.rank(0, 255).is(255);
        // The one comes in, and now the same call holds: 50 was left outside by the refusals above.
        x.through(0, 99, 99).is(1);
        x.also(0, 99, 50).is(1);
        x.rank(0, 50).is(3);
    }

    private static void alsoTheOtherOneIs() {
        due.about("Promise 9: 0, changing nothing, when the other one is");
        Asked x = new Asked(due);
        x.order(2);
        x.through(0, 100, 102);
        x.also(0, 100, 102).is(0);
        x.also(0, 102, 100).is(0);
        x.also(0, 100, 103).is(1);
        // It came in by also, which is in it just as well.
        x.also(0, 101, 103).is(0);
        x.also(0, 100, 103).is(0);
        x.also(0, 104, 103).is(0);
        x.ranksAre(0, 100, 101, 102, 0, 1, 2);
        x.rank(0, 103).is(0);
        x.rank(0, 104).is(103);
    }

    private static void alsoWithItself() {
        due.about("Promise 9: 0, when the one isn't in it, or the other one is (a code and itself)");
        Asked x = new Asked(due);
        x.order(2);
        x.also(0, 0, 0).is(0);
        x.also(0, 255, 255).is(0);
        x.through(0, 255, 255);
        x.also(0, 255, 255).is(0);
        x.ranksAre(0, 255, 0, 1, 2);
    }

    private static void alsoRefused() {
        due.about("Promise 9: or refused");
        Asked x = new Asked(due);
        x.order(2);
        x.through(0, 0, 0);
        for (int order : NO_ORDERS) {
            x.also(order, 0, 255).is(-2);
        }
        for (int c : Asked.NO_CODES) {
            x.also(0, c, 1).is(-4);
            x.also(0, 0, c).is(-4);
            x.also(0, c, c).is(-4);
        }
        x.order(0);
        x.order(1);
        x.also(1, 0, 255).is(-5);
        x.also(2, 0, 255).is(-5);
        // An answer that would be 0 in an alphabet is refused in the others all the same.
        x.also(1, 7, 7).is(-5);
        x.also(2, 7, 7).is(-5);
        x.ranksNatively(0);
    }

    private static void throughUpwards() {
        due.about("Promise 10: Codes from .. to come behind those of an alphabet: how many");
        Asked x = new Asked(due);
        x.order(2);
        x.through(0, 254, 255).is(2);
        x.through(0, 0, 1).is(2);
        x.ranksAre(0, 254, 255, 0, 1, 2, 3);
        x.order(2);
        x.through(1, 0, 255).is(256);
        x.ranksNatively(1);
    }

    private static void throughDownwards() {
        due.about("Promise 10: (downwards, if from is greater)");
        Asked x = new Asked(due);
        x.order(2);
        x.through(0, 255, 254).is(2);
        x.through(0, 1, 0).is(2);
        x.ranksAre(0, 255, 254, 1, 0, 2, 3);
        x.order(2);
        x.through(1, 255, 0).is(256);
        for (int c = 0; c < 256; c++) {
            x.rank(1, c).is(255 - c);
        }
    }

    private static void throughOneCode() {
        due.about("Promise 10: Codes from .. to (from is to)");
        for (int c : new int[] {0, 1, 254, 255}) {
            Asked x = new Asked(due);
            x.order(2);
            x.through(0, c, c).is(1);
            x.rank(0, c).is(0);
            x.through(0, c, c).is(0);
            x.rank(0, 128).is(c < 128 ? 128 : 129);
        }
    }

    private static void throughBehindThoseOfTheAlphabet() {
        due.about("Promise 10: come behind those of an alphabet, each with a rank of its own");
        Asked x = new Asked(due);
        x.order(2);
        x.order(2);
        x.through(0, 200, 202).is(3);
        x.also(0, 202, 9).is(1);
        x.through(0, 8, 7).is(2);
        x.through(0, 10, 11).is(2);
        x.ranksAre(0, 200, 201, 202, 8, 7, 10, 11, 0, 1);
        x.rank(0, 9).is(2);
        // Another alphabet is its own: it counts from 0 on.
        x.through(1, 8, 8).is(1);
        x.rank(1, 8).is(0);
    }

    private static void throughWhatIsInIt() {
        due.about("Promise 10: 0, changing nothing, when one is in it already");
        int[][] taken = {{100, 110}, {110, 100}, {90, 100}, {100, 90}, {110, 120}, {120, 110},
            {0, 255}, {255, 0}, {104, 106}, {105, 105}, {90, 120}, {120, 90}, {30, 20}, {20, 30}};
        Asked x = new Asked(due);
        x.order(2);
        x.through(0, 100, 110);
        // 25 came in by also, in the midst of codes that didn't.
        x.also(0, 100, 25);
        for (int[] range : taken) {
            x.through(0, range[0], range[1]).is(0);
        }
        for (int c = 0; c < 256; c++) {
            x.rank(0, c).is(rankBehind(c));
        }
        x.through(0, 99, 99).is(1);
        x.rank(0, 99).is(11);
    }

    /** The rank of a code when 100 .. 110 are in the alphabet and 25 is the equal of 100. */
    private static int rankBehind(int c) {
        if (c >= 100 && c <= 110) {
            return c - 100;
        }
        if (c == 25) {
            return 0;
        }
        int before = (c > 25 ? 1 : 0) + (c > 110 ? 11 : 0);
        return 11 + c - before;
    }

    private static void throughBesideWhatIsInIt() {
        due.about("Promise 10: when one is in it already (and the neighbours are not)");
        Asked x = new Asked(due);
        x.order(2);
        x.through(0, 100, 110);
        x.through(0, 90, 100).is(0);
        x.through(0, 90, 99).is(10);
        x.through(0, 120, 110).is(0);
        x.through(0, 120, 111).is(10);
        x.rank(0, 90).is(11);
        x.rank(0, 99).is(20);
        x.rank(0, 120).is(21);
        x.rank(0, 111).is(30);
        x.rank(0, 0).is(31);
    }

    private static void throughRefused() {
        due.about("Promise 10: or refused");
        Asked x = new Asked(due);
        x.order(2);
        for (int order : NO_ORDERS) {
            x.through(order, 0, 255).is(-2);
        }
        for (int c : Asked.NO_CODES) {
            x.through(0, c, 0).is(-4);
            x.through(0, 255, c).is(-4);
            x.through(0, c, c).is(-4);
        }
        x.order(0);
        x.order(1);
        x.through(1, 0, 255).is(-5);
        x.through(2, 255, 0).is(-5);
        x.through(1, 7, 7).is(-5);
        x.through(2, 7, 7).is(-5);
        x.ranksNatively(0);
    }

    private static void highOfTheGreatestRank() {
        due.about("Promise 18: the greatest one with the greatest rank (one code has it)");
        Asked x = new Asked(due);
        x.order(0);
        x.high(0).is(255);
        x.order(2);
        x.high(1).is(255);
        x.through(1, 255, 255);
        x.high(1).is(254);
        x.through(1, 254, 1);
        x.high(1).is(0);
        x.through(1, 0, 0);
        x.high(1).is(0);
        x.page(2);
        x.set(0, 255, 65535);
        x.order(1);
        // A code without a meaning comes behind the greatest meaning.
        x.high(2).is(254);
        x.page(1);
        x.high(2).is(254);
    }

    private static void highOfEqualCodes() {
        due.about("Promise 18: the greatest one with the greatest rank (several have it)");
        Asked x = new Asked(due);
        x.order(2);
        x.through(0, 0, 252).is(253);
        x.high(0).is(255);
        x.also(0, 252, 255).is(1);
        x.high(0).is(254);
        x.also(0, 0, 254).is(1);
        x.high(0).is(253);
        x.also(0, 252, 253).is(1);
        // 252, 253 and 255 share the greatest rank; 254 has the least one.
        x.rank(0, 255).is(252);
        x.high(0).is(255);
        x.order(2);
        x.through(1, 254, 0).is(255);
        x.high(1).is(255);
        x.also(1, 1, 255).is(1);
        // 255 is greater, but 0 alone has the greatest rank.
        x.high(1).is(0);
        x.order(2);
        x.through(2, 255, 1).is(255);
        x.also(2, 1, 0).is(1);
        x.high(2).is(1);
    }

    private static void highOfAFullAlphabet() {
        due.about("Promise 18: the greatest one with the greatest rank (all have it, each its own)");
        Asked x = new Asked(due);
        x.order(2);
        x.through(0, 0, 0);
        for (int c = 1; c < 256; c++) {
            x.also(0, c - 1, c).is(1);
        }
        x.rank(0, 0).is(0);
        x.rank(0, 255).is(0);
        x.high(0).is(255);
        x.order(2);
        x.through(1, 0, 255);
        x.high(1).is(255);
        x.order(2);
        x.through(2, 255, 0);
        x.high(2).is(0);
    }

    private static void highRefused() {
        due.about("Promise 18: -2");
        Asked x = new Asked(due);
        for (int n = 0; n < 12; n++) {
            x.high(n).is(-2);
            x.order(n % 3);
            x.high(n).is(255);
        }
        for (int order : new int[] {-1, 12, MIN, MAX}) {
            x.high(order).is(-2);
        }
    }

    private static void rankWithoutGaps() {
        due.about("Promise 19: counted from 0 on without gaps");
        Asked x = new Asked(due);
        x.page(2);
        x.set(0, 10, 65535);
        x.set(0, 20, 0);
        x.set(0, 30, 1000);
        x.order(1);
        boolean[] seen = new boolean[256];
        for (int c = 0; c < 256; c++) {
            int rank = (int) x.rank(0, c).got();
            due.is("rank " + rank + " of " + c + " is inside and new",
                rank >= 0 && rank < 256 && !seen[rank], true);
            seen[rank & 255] = true;
        }
        x.order(2);
        x.through(1, 10, 14);
        x.also(1, 10, 20);
        x.also(1, 10, 21);
        x.also(1, 14, 22);
        boolean[] used = new boolean[256];
        for (int c = 0; c < 200; c++) {
            used[(int) x.rank(1, c).got() & 255] = true;
        }
        // Three equal codes took no rank: 200 codes have the ranks 0 .. 196.
        for (int rank = 0; rank < 256; rank++) {
            due.is("rank " + rank + " is given", used[rank], rank < 197);
        }
        x.rank(1, 255).is(252);
    }

    private static void rankRefused() {
        due.about("Promise 19: -2, -4");
        Asked x = new Asked(due);
        x.order(0);
        x.order(2);
        for (int order : new int[] {-1, 2, 11, 12, MIN, MAX}) {
            x.rank(order, 0).is(-2);
            x.rank(order, 255).is(-2);
        }
        for (int c : Asked.NO_CODES) {
            x.rank(0, c).is(-4);
            x.rank(1, c).is(-4);
        }
        x.rank(0, 0).is(0);
        x.rank(0, 255).is(255);
        x.rank(1, 0).is(0);
        x.rank(1, 255).is(255);
    }
}
