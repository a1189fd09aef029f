/** Promises 16 and 17: cls, print. */
public final class ClassesTest {
    private static final int[] FAR = {Integer.MIN_VALUE, -65536, 65536 + 48, Integer.MAX_VALUE};
    private static final Due due = new Due();

    public static void main(String[] args) {
        for (int c = -300; c < 600; c++) {
            CodePages x = new CodePages();
            classesOf(x, c);
            printOf(x, c);
        }
        CodePages x = new CodePages();
        for (int c : FAR) {
            classesOf(x, c);
            printOf(x, c);
        }
        due.is("print(15, 0)", x.print(15, 0), 48);
        due.is("print(159, 0)", x.print(159, 0), 57);
        due.is("print(240, 0)", x.print(240, 0), 70);
        due.is("print(10, 1)", x.print(10, 1), 65);
        due.end();
    }

    private static boolean among(String signs, int c) {
        return c >= 0 && c < 65536 && signs.indexOf(c) >= 0;
    }

    private static void classesOf(CodePages x, int c) {
        String great = "ABCDEFGHIJKLMNOPQRSTUVWXYZ";
        String small = "abcdefghijklmnopqrstuvwxyz";
        boolean[] want = {
            among("0123456789", c),
            among(great, c) || among(small, c),
            among(great, c),
            among(small, c),
            c == ' ',
            c >= 0 && c < 256 && c < ' ' || c == 127,
        };
        for (int kind = 0; kind < want.length; kind++) {
            due.is("cls(" + c + ", " + kind + ")", x.cls(c, kind), want[kind]);
        }
        due.is("cls(" + c + ", -1)", x.cls(c, -1), false);
        due.is("cls(" + c + ", 6)", x.cls(c, 6), false);
        for (int kind : FAR) {
            due.is("cls(" + c + ", " + kind + ")", x.cls(c, kind), false);
        }
    }

    private static void printOf(CodePages x, int c) {
        boolean code = c >= 0 && c <= 255;
        String halves = code ? String.format("%02X", c) : "\0\0";
        int sign = code ? "??????????+-+-++".charAt(c % 16) : 0;
        due.is("print(" + c + ", 0)", x.print(c, 0), halves.charAt(0));
        due.is("print(" + c + ", 1)", x.print(c, 1), halves.charAt(1));
        due.is("print(" + c + ", 2)", x.print(c, 2), sign);
        due.is("print(" + c + ", 3)", x.print(c, 3), 0);
        due.is("print(" + c + ", -1)", x.print(c, -1), 0);
        for (int i : FAR) {
            due.is("print(" + c + ", " + i + ")", x.print(c, i), 0);
        }
    }
}
