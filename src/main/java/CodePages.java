/**
 * Code pages, collating orders and texts, all numbered from 0 on.
 * The document (DOC.md) says what each call answers; its promises bear the names of the methods.
 */
public final class CodePages {
    public static final int NONE = -1;

    private static final int NO_SUCH = -2;
    private static final int OUTSIDE = -4;
    private static final int NOT_FOR_KIND = -5;

    private static final int CODES = 256;
    private static final int MEANINGS = 65536;
    private static final int KINDS = 3;
    private static final int MOST_PAGES = 12;
    private static final int MOST_ORDERS = 12;
    private static final int MOST_TEXTS = 40;
    private static final int MOST_SIGNS = 40;
    private static final int MOST_LISTED = 200;

    private static final int PAGE_PLAIN = 0;
    private static final int PAGE_SCATTERED = 1;
    private static final int ORDER_BY_PAGE = 1;
    private static final int ORDER_ALPHABET = 2;

    private static final int BLANK = 32;
    private static final int FIRST_STAND_IN = 63;

    // A place that nothing stands at yet is null, so one look at the row tells whether a number is given out.
    private final Page[] pages = new Page[MOST_PAGES];
    private final Order[] orders = new Order[MOST_ORDERS];
    private final Text[] texts = new Text[MOST_TEXTS];
    private final int[] listed = new int[MOST_LISTED];
    private int pageCount;
    private int orderCount;
    private int textCount;
    private int listedCount;

    public CodePages() {
        pageCount = 0;
        orderCount = 0;
        textCount = 0;
        listedCount = 0;
    }

    public int page(int kind) {
        if (!isKind(kind)) {
            return OUTSIDE;
        }
        if (pageCount >= MOST_PAGES) {
            return NONE;
        }
        pages[pageCount] = new Page(kind);
        return pageCount++;
    }

    public int set(int page, int i, int u) {
        Page changed = pageAt(page);
        if (changed == null) {
            return NO_SUCH;
        }
        if (!isCode(i) || !isMeaningOrNone(u)) {
            return OUTSIDE;
        }
        int holder = changed.codeThatMeans(u);
        if (holder != NONE && holder != i) {
            return 0;
        }
        changed.meanings[i] = u;
        return 1;
    }

    public int row(int page, int i) throws ArrayIndexOutOfBoundsException {
        Page read = pageAt(page);
        if (read == null || !isCode(i)) {
            throw new ArrayIndexOutOfBoundsException("no such page or code");
        }
        return read.meanings[i];
    }

    public int standIn(int page, int c) {
        Page changed = pageAt(page);
        if (changed == null) {
            return NO_SUCH;
        }
        if (!isCode(c)) {
            return OUTSIDE;
        }
        int before = changed.substitute;
        changed.substitute = c;
        return before;
    }

    public int translate(int c, int from, int to) {
        Page source = pageAt(from);
        Page target = pageAt(to);
        if (source == null || target == null) {
            return NO_SUCH;
        }
        if (!isCode(c)) {
            return OUTSIDE;
        }
        int found = findOrEnlist(c, source, target);
        return found != NONE ? found : target.substitute;
    }

    public int told(int i) {
        return i >= 0 && i < listedCount ? listed[i] : NONE;
    }

    public int order(int kind) {
        if (!isKind(kind)) {
            return OUTSIDE;
        }
        if (orderCount >= MOST_ORDERS) {
            return NONE;
        }
        Order made = new Order(kind == ORDER_ALPHABET);
        Page first = pageAt(0);
        if (kind == ORDER_BY_PAGE && first != null) {
            made.rankBy(first.meanings);
        }
        orders[orderCount] = made;
        return orderCount++;
    }

    public int also(int order, int c, int other) {
        Order changed = orderAt(order);
        if (changed == null) {
            return NO_SUCH;
        }
        int refusal = alphabetRefusal(changed.alphabet, c, other);
        if (refusal != 0) {
            return refusal;
        }
        return changed.addEqual(c, other) ? 1 : 0;
    }

    public int through(int order, int from, int to) {
        Order changed = orderAt(order);
        if (changed == null) {
            return NO_SUCH;
        }
        int refusal = alphabetRefusal(changed.alphabet, from, to);
        if (refusal != 0) {
            return refusal;
        }
        return changed.addRange(from, to) ? Math.abs(to - from) + 1 : 0;
    }

    public int text() {
        if (textCount >= MOST_TEXTS) {
            return NONE;
        }
        texts[textCount] = new Text();
        return textCount++;
    }

    public int sign(int text, int c) {
        Text changed = textAt(text);
        if (changed == null) {
            return NO_SUCH;
        }
        if (!isCode(c)) {
            return OUTSIDE;
        }
        if (changed.size >= MOST_SIGNS) {
            return NONE;
        }
        changed.codes[changed.size] = c;
        changed.size++;
        return changed.size;
    }

    public int whole(int text, int from, int to) {
        Text changed = textAt(text);
        Page source = pageAt(from);
        Page target = pageAt(to);
        if (changed == null || source == null || target == null) {
            return NO_SUCH;
        }
        int missed = 0;
        for (int k = 0; k < changed.size; k++) {
            int found = findOrEnlist(changed.codes[k], source, target);
            if (found == NONE) {
                // Counted even when the list is full: a code that is not kept was listed all the same.
                missed++;
                found = target.substitute;
            }
            changed.codes[k] = found;
        }
        return missed;
    }

    public int at(int text, int k) {
        Text read = textAt(text);
        return read != null && k >= 0 && k < read.size ? read.codes[k] : NONE;
    }

    public int compare(int order, int a, int b) {
        Order by = orderAt(order);
        Text first = textAt(a);
        Text second = textAt(b);
        if (by == null || first == null || second == null) {
            return NO_SUCH;
        }
        int length = Math.max(first.size, second.size);
        for (int k = 0; k < length; k++) {
            int left = by.ranks[first.codeOrBlank(k)];
            int right = by.ranks[second.codeOrBlank(k)];
            if (left != right) {
                return left < right ? -1 : 1;
            }
        }
        return 0;
    }

    public boolean cls(int c, int kind) {
        switch (kind) {
            case 0:
                return c >= 48 && c <= 57;
            case 1:
                return isGreatLetter(c) || isSmallLetter(c);
            case 2:
                return isGreatLetter(c);
            case 3:
                return isSmallLetter(c);
            case 4:
                return c == BLANK;
            case 5:
                return c >= 0 && c < 32 || c == 127;
            default:
                return false;
        }
    }

    public byte print(int c, int i) {
        if (!isCode(c)) {
            return 0;
        }
        switch (i) {
            case 0:
                return (byte) hexDigit(c >> 4);
            case 1:
                return (byte) hexDigit(c & 15);
            case 2:
                return (byte) halfAsSign(c & 15);
            default:
                return 0;
        }
    }

    public int high(int order) {
        Order read = orderAt(order);
        return read == null ? NO_SUCH : read.lastCode();
    }

    public int rank(int order, int c) {
        Order read = orderAt(order);
        if (read == null) {
            return NO_SUCH;
        }
        return isCode(c) ? read.ranks[c] : OUTSIDE;
    }

    private static boolean isCode(int c) {
        return c >= 0 && c < CODES;
    }

    private static boolean isMeaningOrNone(int u) {
        return u == NONE || u >= 0 && u < MEANINGS;
    }

    private static boolean isKind(int kind) {
        return kind >= 0 && kind < KINDS;
    }

    private Page pageAt(int number) {
        return number >= 0 && number < MOST_PAGES ? pages[number] : null;
    }

    private Order orderAt(int number) {
        return number >= 0 && number < MOST_ORDERS ? orders[number] : null;
    }

    private Text textAt(int number) {
        return number >= 0 && number < MOST_TEXTS ? texts[number] : null;
    }

    private int findOrEnlist(int c, Page source, Page target) {
        int found = target.codeThatMeans(source.meanings[c]);
        if (found == NONE && listedCount < MOST_LISTED) {
            listed[listedCount] = c;
            listedCount++;
        }
        return found;
    }

    private static int alphabetRefusal(boolean alphabet, int c, int d) {
        // The codes come first: of several refusals the document wants the one that it lists first.
        if (!isCode(c) || !isCode(d)) {
            return OUTSIDE;
        }
        return alphabet ? 0 : NOT_FOR_KIND;
    }

    private static boolean isGreatLetter(int c) {
        return c >= 65 && c <= 90;
    }

    private static boolean isSmallLetter(int c) {
        return c >= 97 && c <= 122;
    }

    private static int hexDigit(int half) {
        return half < 10 ? 48 + half : 55 + half;
    }

    private static int halfAsSign(int half) {
        switch (half) {
            case 10:
            case 12:
            case 14:
            case 15:
                return 43;
            case 11:
            case 13:
                return 45;
            default:
                return 63;
        }
    }

    private static final class Page {
        final int[] meanings = new int[CODES];
        int substitute = FIRST_STAND_IN;

        Page(int kind) {
            for (int i = 0; i < CODES; i++) {
                meanings[i] = firstMeaning(kind, i);
            }
        }

        static int firstMeaning(int kind, int i) {
            if (kind == PAGE_PLAIN) {
                return i < 128 ? i : NONE;
            }
            return kind == PAGE_SCATTERED ? (167 * i + 13) % 256 : NONE;
        }

        int codeThatMeans(int meaning) {
            // Without this, codes that mean nothing would be found as if they meant the same.
            if (meaning == NONE) {
                return NONE;
            }
            for (int i = 0; i < CODES; i++) {
                if (meanings[i] == meaning) {
                    return i;
                }
            }
            return NONE;
        }
    }

    private static final class Order {
        final boolean alphabet;
        final int[] ranks = new int[CODES];
        final boolean[] inside = new boolean[CODES];
        int nextRank = 0;

        Order(boolean alphabet) {
            this.alphabet = alphabet;
            for (int c = 0; c < CODES; c++) {
                ranks[c] = c;
            }
        }

        void rankBy(int[] meanings) {
            int[] sorted = new int[CODES];
            for (int c = 0; c < CODES; c++) {
                int place = c;
                while (place > 0 && sortKey(meanings, c) < sortKey(meanings, sorted[place - 1])) {
                    sorted[place] = sorted[place - 1];
                    place--;
                }
                sorted[place] = c;
            }
            for (int k = 0; k < CODES; k++) {
                ranks[sorted[k]] = k;
            }
        }

        static int sortKey(int[] meanings, int c) {
            // Above every meaning, and by code: so those without one come last, natively.
            return meanings[c] == NONE ? MEANINGS + c : meanings[c];
        }

        boolean addEqual(int c, int other) {
            if (!inside[c] || inside[other]) {
                return false;
            }
            inside[other] = true;
            ranks[other] = ranks[c];
            rankThoseOutside();
            return true;
        }

        boolean addRange(int from, int to) {
            int low = Math.min(from, to);
            int high = Math.max(from, to);
            for (int c = low; c <= high; c++) {
                if (inside[c]) {
                    return false;
                }
            }
            for (int c = low; c <= high; c++) {
                inside[c] = true;
                ranks[c] = nextRank + Math.abs(c - from);
            }
            nextRank += high - low + 1;
            rankThoseOutside();
            return true;
        }

        void rankThoseOutside() {
            int behind = nextRank;
            for (int c = 0; c < CODES; c++) {
                if (!inside[c]) {
                    ranks[c] = behind;
                    behind++;
                }
            }
        }

        int lastCode() {
            int last = 0;
            for (int c = 1; c < CODES; c++) {
                if (ranks[c] >= ranks[last]) {
                    last = c;
                }
            }
            return last;
        }
    }

    private static final class Text {
        final int[] codes = new int[MOST_SIGNS];
        int size = 0;

        int codeOrBlank(int k) {
            return k >= 0 && k < size ? codes[k] : BLANK;
        }
    }
}
