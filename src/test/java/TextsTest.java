/** Promises 11 to 15: text, sign, whole, at, compare. */
public final class TextsTest {
    private static final int MIN = Integer.MIN_VALUE;
    private static final int MAX = Integer.MAX_VALUE;
    private static final Due due = new Due();

    public static void main(String[] args) {
        numbersOfTexts();
        signs();
        signRefusals();
        wholeTexts();
        wholeAndAFullList();
        wholeRefusals();
        comparing();
        comparingByRank();
        fillingWithBlanks();
        compareRefusals();
        due.end();
    }

    private static int textOf(CodePages x, int... codes) {
        int text = x.text();
        for (int c : codes) {
            x.sign(text, c);
        }
        return text;
    }

    private static void numbersOfTexts() {
        CodePages x = new CodePages();
        for (int n = 0; n < 40; n++) {
            due.is("text number " + n, x.text(), n);
        }
        due.is("a 41st text", x.text(), -1);
        due.is("the 40th text is there, and empty", x.at(39, 0), -1);
        due.is("it takes signs", x.sign(39, 200), 1);
        due.is("its own sign", x.at(39, 0), 200);
        due.is("another one is empty", x.at(38, 0), -1);
        due.is("no text 40", x.sign(40, 200), -2);
    }

    private static void signs() {
        CodePages x = new CodePages();
        x.text();
        for (int n = 0; n < 40; n++) {
            due.is("sign " + n, x.sign(0, 255 - n), n + 1);
        }
        due.is("a 41st sign", x.sign(0, 7), -1);
        due.is("a 41st sign that is no code: outside comes first", x.sign(0, 256), -4);
        for (int n = 0; n < 40; n++) {
            due.is("at(0, " + n + ")", x.at(0, n), 255 - n);
        }
        for (int k : new int[] {-1, 40, 41, MIN, MAX}) {
            due.is("at(0, " + k + ")", x.at(0, k), -1);
        }
        int shorter = textOf(x, 0, 9);
        due.is("the last one", x.at(shorter, 1), 9);
        due.is("behind the last one", x.at(shorter, 2), -1);
    }

    private static void signRefusals() {
        CodePages x = new CodePages();
        x.text();
        for (int text : new int[] {-1, 1, 40, MIN, MAX}) {
            due.is("sign(" + text + ", 256)", x.sign(text, 256), -2);
            due.is("at(" + text + ", 0)", x.at(text, 0), -1);
        }
        for (int c : new int[] {-1, 256, MIN, MAX}) {
            due.is("sign(0, " + c + ")", x.sign(0, c), -4);
        }
        due.is("still empty", x.at(0, 0), -1);
        due.is("sign(0, 0)", x.sign(0, 0), 1);
        due.is("sign(0, 255)", x.sign(0, 255), 2);
    }

    private static void wholeTexts() {
        CodePages x = new CodePages();
        x.page(0);
        x.page(1);
        x.page(2);
        x.standIn(2, 99);
        x.set(2, 98, 66);
        int text = textOf(x, 65, 66, 200, 66, 67);
        int beside = textOf(x, 65);
        due.is("whole(0, 0, 2)", x.whole(text, 0, 2), 3);
        int[] became = {99, 98, 99, 98, 99};
        for (int k = 0; k < became.length; k++) {
            due.is("at(0, " + k + ")", x.at(text, k), became[k]);
        }
        due.is("no longer than it was", x.at(text, 5), -1);
        due.is("another text is as it was", x.at(beside, 0), 65);
        int[] listed = {65, 200, 67, -1};
        for (int i = 0; i < listed.length; i++) {
            due.is("told(" + i + ")", x.told(i), listed[i]);
        }
        due.is("whole(1, 0, 1)", x.whole(beside, 0, 1), 0);
        due.is("at(1, 0)", x.at(beside, 0), 172);
        due.is("and back", x.whole(beside, 1, 0), 0);
        due.is("at(1, 0) again", x.at(beside, 0), 65);
        due.is("an empty text", x.whole(x.text(), 0, 2), 0);
        due.is("nothing more is listed", x.told(3), -1);
        due.is("to the same page", x.whole(text, 0, 0), 0);
    }

    private static void wholeAndAFullList() {
        CodePages x = new CodePages();
        x.page(2);
        int text = x.text();
        for (int k = 0; k < 39; k++) {
            x.sign(text, k);
        }
        for (int n = 0; n < 5; n++) {
            due.is("whole number " + n, x.whole(text, 0, 0), 39);
        }
        due.is("told(38)", x.told(38), 38);
        due.is("told(39): a stand-in is a code as others", x.told(39), 63);
        due.is("told(194)", x.told(194), 63);
        due.is("told(195)", x.told(195), -1);
        x.standIn(0, 1);
        due.is("five have room, all are listed", x.whole(text, 0, 0), 39);
        due.is("told(199)", x.told(199), 63);
        due.is("told(200)", x.told(200), -1);
        due.is("at(0, 38)", x.at(text, 38), 1);
        due.is("a full list", x.whole(text, 0, 0), 39);
        due.is("told(200) still", x.told(200), -1);
    }

    private static void wholeRefusals() {
        CodePages x = new CodePages();
        x.page(2);
        int text = textOf(x, 70);
        for (int none : new int[] {-1, 1, 12, 40, MIN, MAX}) {
            due.is("whole(" + none + ", 0, 0)", x.whole(none, 0, 0), -2);
            due.is("whole(0, " + none + ", 0)", x.whole(text, none, 0), -2);
            due.is("whole(0, 0, " + none + ")", x.whole(text, 0, none), -2);
        }
        due.is("the text is as it was", x.at(text, 0), 70);
        due.is("nothing is listed", x.told(0), -1);
    }

    private static void bothWays(CodePages x, int order, int a, int b, int want) {
        due.is("compare(" + order + ", " + a + ", " + b + ")", x.compare(order, a, b), want);
        due.is("compare(" + order + ", " + b + ", " + a + ")", x.compare(order, b, a), -want);
    }

    private static void comparing() {
        CodePages x = new CodePages();
        x.order(0);
        int ab = textOf(x, 65, 66);
        int ac = textOf(x, 65, 67);
        int b = textOf(x, 66);
        int same = textOf(x, 65, 66);
        int last = textOf(x, 65, 66, 255);
        bothWays(x, 0, ab, ac, -1);
        bothWays(x, 0, ac, b, -1);
        bothWays(x, 0, ab, same, 0);
        bothWays(x, 0, ab, ab, 0);
        bothWays(x, 0, ab, last, -1);
        bothWays(x, 0, textOf(x, 255), textOf(x, 0), 1);
        bothWays(x, 0, x.text(), x.text(), 0);
    }

    private static void comparingByRank() {
        CodePages x = new CodePages();
        x.order(2);
        x.page(1);
        x.order(1);
        x.through(0, 90, 65);
        x.also(0, 65, 97);
        x.also(0, 66, 98);
        int great = textOf(x, 65, 66);
        int small = textOf(x, 97, 98);
        bothWays(x, 0, great, small, 0);
        bothWays(x, 0, textOf(x, 66), textOf(x, 65), -1);
        bothWays(x, 0, textOf(x, 97, 90), textOf(x, 65, 98), -1);
        bothWays(x, 0, textOf(x, 65), textOf(x, 48), -1);
        bothWays(x, 1, textOf(x, 1), textOf(x, 2), 1);
    }

    private static void fillingWithBlanks() {
        CodePages x = new CodePages();
        x.order(0);
        x.order(2);
        x.through(1, 48, 57);
        x.through(1, 32, 32);
        x.through(1, 65, 90);
        x.also(1, 32, 95);
        int empty = x.text();
        int a = textOf(x, 65);
        bothWays(x, 0, empty, textOf(x, 32, 32), 0);
        bothWays(x, 0, empty, textOf(x, 31), 1);
        bothWays(x, 0, empty, textOf(x, 33), -1);
        bothWays(x, 0, a, textOf(x, 65, 0), 1);
        bothWays(x, 0, a, textOf(x, 65, 32, 32), 0);
        bothWays(x, 0, a, textOf(x, 65, 32, 33), -1);
        bothWays(x, 1, a, textOf(x, 65, 48), 1);
        bothWays(x, 1, a, textOf(x, 65, 65), -1);
        bothWays(x, 1, a, textOf(x, 65, 95), 0);
        bothWays(x, 0, a, textOf(x, 65, 95), -1);
        int full = x.text();
        for (int k = 0; k < 39; k++) {
            x.sign(full, 32);
        }
        bothWays(x, 0, empty, full, 0);
        x.sign(full, 33);
        bothWays(x, 0, empty, full, -1);
    }

    private static void compareRefusals() {
        CodePages x = new CodePages();
        x.order(0);
        x.text();
        for (int none : new int[] {-1, 1, 12, 40, MIN, MAX}) {
            due.is("compare(" + none + ", 0, 0)", x.compare(none, 0, 0), -2);
            due.is("compare(0, " + none + ", 0)", x.compare(0, none, 0), -2);
            due.is("compare(0, 0, " + none + ")", x.compare(0, 0, none), -2);
            due.is("compare(0, " + none + ", " + none + ")", x.compare(0, none, none), -2);
        }
    }
}
