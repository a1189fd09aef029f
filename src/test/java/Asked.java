import java.util.Arrays;

/**
 * A new CodePages whose calls name themselves when an answer isn't the one that is due.
 * It counts the calls too, as nothing is promised after an object's 512th.
 */
final class Asked {
    static final int MIN = Integer.MIN_VALUE;
    static final int MAX = Integer.MAX_VALUE;
    static final int MOST_CALLS = 512;
    /** No codes: the first ones outside, those that would wrap into the codes, the smallest and the greatest. */
    static final int[] NO_CODES = {-1, 256, MIN, MAX, -256, 256 + 65, 65536 + 65, MIN + 65};

    private final CodePages x = new CodePages();
    private final Due due;
    private int calls = 0;

    Asked(Due due) {
        this.due = due;
    }

    /** An answer, with the call that it answers. */
    record Answer(Due due, String call, long got) {
        void is(long want) {
            due.is(call, got, want);
        }

        void is(boolean want) {
            due.is(call, got, want ? 1 : 0);
        }
    }

    Answer page(int kind) {
        return answer("page", x.page(kind), kind);
    }

    Answer set(int page, int i, int u) {
        return answer("set", x.set(page, i, u), page, i, u);
    }

    Answer row(int page, int i) {
        return answer("row", x.row(page, i), page, i);
    }

    void rowThrows(int page, int i) {
        count();
        due.rowThrows(x, page, i);
    }

    Answer standIn(int page, int c) {
        return answer("standIn", x.standIn(page, c), page, c);
    }

    Answer translate(int c, int from, int to) {
        return answer("translate", x.translate(c, from, to), c, from, to);
    }

    Answer told(int i) {
        return answer("told", x.told(i), i);
    }

    Answer order(int kind) {
        return answer("order", x.order(kind), kind);
    }

    Answer also(int order, int c, int other) {
        return answer("also", x.also(order, c, other), order, c, other);
    }

    Answer through(int order, int from, int to) {
        return answer("through", x.through(order, from, to), order, from, to);
    }

    Answer text() {
        return answer("text", x.text());
    }

    Answer sign(int text, int c) {
        return answer("sign", x.sign(text, c), text, c);
    }

    Answer whole(int text, int from, int to) {
        return answer("whole", x.whole(text, from, to), text, from, to);
    }

    Answer at(int text, int k) {
        return answer("at", x.at(text, k), text, k);
    }

    Answer compare(int order, int a, int b) {
        return answer("compare", x.compare(order, a, b), order, a, b);
    }

    Answer cls(int c, int kind) {
        return answer("cls", x.cls(c, kind) ? 1 : 0, c, kind);
    }

    Answer print(int c, int i) {
        return answer("print", x.print(c, i), c, i);
    }

    Answer high(int order) {
        return answer("high", x.high(order), order);
    }

    Answer rank(int order, int c) {
        return answer("rank", x.rank(order, c), order, c);
    }

    /** How many calls the object has answered. */
    int calls() {
        return calls;
    }

    /** A new text with these codes: its number. */
    int textOf(int... codes) {
        int text = (int) text().got();
        for (int c : codes) {
            sign(text, c);
        }
        return text;
    }

    /** A new text with one code many times: its number. */
    int textOfMany(int count, int c) {
        int[] codes = new int[count];
        Arrays.fill(codes, c);
        return textOf(codes);
    }

    /** The codes of an order as they follow one another, from rank 0 on. */
    void ranksAre(int order, int... codes) {
        for (int k = 0; k < codes.length; k++) {
            rank(order, codes[k]).is(k);
        }
    }

    /** Each code ranks as its number. */
    void ranksNatively(int order) {
        for (int c = 0; c < 256; c++) {
            rank(order, c).is(c);
        }
    }

    void listIs(int... codes) {
        for (int i = 0; i < codes.length; i++) {
            told(i).is(codes[i]);
        }
        told(codes.length).is(CodePages.NONE);
    }

    void textIs(int text, int... codes) {
        for (int k = 0; k < codes.length; k++) {
            at(text, k).is(codes[k]);
        }
        at(text, codes.length).is(CodePages.NONE);
    }

    /** Both ways round: what comes before from the one side comes behind from the other. */
    void comparesAs(int order, int a, int b, int want) {
        compare(order, a, b).is(want);
        compare(order, b, a).is(-want);
    }

    private Answer answer(String name, long got, int... arguments) {
        count();
        String told = Arrays.toString(arguments);
        return new Answer(due, name + "(" + told.substring(1, told.length() - 1) + ")", got);
    }

    private void count() {
        calls++;
        if (calls == MOST_CALLS + 1) {
            due.is("the test asks too many calls of one object:", calls, MOST_CALLS);
        }
    }
}
