/** The boundary cases of promises 16 and 17: a test for each sentence, on both sides of its boundary. */
public final class SignBoundsTest {
    private static final int MIN = Asked.MIN;
    private static final int MAX = Asked.MAX;
    private static final Due due = new Due();

    public static void main(String[] args) {
        classEnds("Promise 16: 0 a digit (48 .. 57)", 0, 48, 57);
        classEnds("Promise 16: 1 a letter (the great ones)", 1, 65, 90);
        classEnds("Promise 16: 1 a letter (the small ones)", 1, 97, 122);
        classEnds("Promise 16: 2 a great one (65 .. 90)", 2, 65, 90);
        classEnds("Promise 16: 3 a small one (97 .. 122)", 3, 97, 122);
        classEnds("Promise 16: 4 a blank (32)", 4, 32, 32);
        classEnds("Promise 16: 5 a control sign (below 32)", 5, 0, 31);
        classEnds("Promise 16: 5 a control sign (127)", 5, 127, 127);
        greatAndSmallAreApart();
        otherKinds();
        noCodesAreOfNoClass();
        halves();
        lowerHalfAsASign();
        otherParts();
        noCodesAreNotPrinted();
        due.end();
    }

    private static void classEnds(String words, int kind, int first, int last) {
        due.about(words);
        Asked x = new Asked(due);
        x.cls(first - 1, kind).is(false);
        x.cls(first, kind).is(true);
        x.cls(last, kind).is(true);
        x.cls(last + 1, kind).is(false);
        x.cls(255, kind).is(false);
    }

    private static void greatAndSmallAreApart() {
        due.about("Promise 16: a letter, a great one, a small one");
        Asked x = new Asked(due);
        for (int c : new int[] {65, 90}) {
            x.cls(c, 2).is(true);
            x.cls(c, 3).is(false);
        }
        for (int c : new int[] {97, 122}) {
            x.cls(c, 2).is(false);
            x.cls(c, 3).is(true);
        }
        for (int c : new int[] {64, 91, 96, 123}) {
            x.cls(c, 1).is(false);
        }
    }

    private static void otherKinds() {
        due.about("Promise 16: false for others (kinds)");
        Asked x = new Asked(due);
        int[] codes = {0, 31, 32, 48, 65, 97, 127, 255};
        for (int kind : new int[] {-1, 6, 7, MIN, MAX, 256, MIN + 4}) {
            for (int c : codes) {
                x.cls(c, kind).is(false);
            }
        }
        x.cls(0, 5).is(true);
        x.cls(48, 0).is(true);
    }

    private static void noCodesAreOfNoClass() {
        due.about("Promise 16: false for others (numbers that are no codes)");
        for (int c : new int[] {-1, MIN, MAX, 256, -256, 256 + 48, 256 + 65, 256 + 97, 256 + 32, 256 + 127,
            -256 + 48, 65536 + 32, MIN + 32, MIN + 127}) {
            Asked x = new Asked(due);
            for (int kind = -1; kind < 7; kind++) {
                x.cls(c, kind).is(false);
            }
        }
    }

    private static void halves() {
        due.about("Promise 17: i = 0, 1 its halves, the higher one first, as 48 .. 57, 65 .. 70");
        Asked x = new Asked(due);
        int[] codes = {0, 9, 10, 15, 16, 0x90, 0x99, 0x9a, 0xa0, 0xa9, 0xaa, 0xf0, 255};
        int[] higher = {48, 48, 48, 48, 49, 57, 57, 57, 65, 65, 65, 70, 70};
        int[] lower = {48, 57, 65, 70, 48, 48, 57, 65, 48, 57, 65, 48, 70};
        for (int k = 0; k < codes.length; k++) {
            x.print(codes[k], 0).is(higher[k]);
            x.print(codes[k], 1).is(lower[k]);
        }
    }

    private static void lowerHalfAsASign() {
        due.about("Promise 17: 2 its lower half as a sign: 43 for 10, 12, 14, 15, 45 for 11, 13, 63 for others");
        int[] signs = {63, 63, 63, 63, 63, 63, 63, 63, 63, 63, 43, 45, 43, 45, 43, 43};
        Asked x = new Asked(due);
        for (int half = 0; half < 16; half++) {
            for (int higher : new int[] {0, 9, 10, 11, 15}) {
                x.print(16 * higher + half, 2).is(signs[half]);
            }
        }
    }

    private static void otherParts() {
        due.about("Promise 17: 0 for others (i)");
        Asked x = new Asked(due);
        for (int i : new int[] {-1, 3, 4, MIN, MAX, 256, MIN + 1}) {
            for (int c : new int[] {0, 65, 171, 255}) {
                x.print(c, i).is(0);
            }
        }
    }

    private static void noCodesAreNotPrinted() {
        due.about("Promise 17: 0 when c is no code");
        Asked x = new Asked(due);
        for (int c : Asked.NO_CODES) {
            for (int i : new int[] {0, 1, 2, -1, 3, MIN, MAX}) {
                x.print(c, i).is(0);
            }
        }
        x.print(0, 0).is(48);
        x.print(255, 2).is(43);
    }
}
