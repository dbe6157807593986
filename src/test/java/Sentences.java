import java.util.function.IntUnaryOperator;

/** What the tests of the document's sentences share: each test bears the sentence that it holds the class against. */
final class Sentences {
    static final int INVALID = -1;
    static final int NOT_POSSIBLE = -2;
    static final int LIMIT = -3;
    static final int NONE = -4;

    /** The right changes of 4, 5, 6 and 7 bells, written out by hand. */
    static final String[][] RIGHT = {
        {"x", "12", "14", "34"},
        {"1", "3", "5", "123", "125", "145", "345"},
        {"x", "12", "14", "16", "34", "36", "56", "1234", "1236", "1256", "1456", "3456"},
        {"1", "3", "5", "7", "123", "125", "127", "145", "147", "167", "345", "347", "367", "567",
            "12345", "12347", "12367", "12567", "14567", "34567"}};

    private static String sentence = "";
    private static int tested = 0;
    private static int wrong = 0;

    private Sentences() {
    }

    static void holds(String text, Runnable test) {
        sentence = text;
        tested++;
        test.run();
    }

    static void due(String call, double got, double due) {
        if (got != due) {
            tell(call + " answered " + got + ", due is " + due);
        }
    }

    static void same(String what, String got, String due) {
        if (!got.equals(due)) {
            tell(what + ": " + got + ", due is " + due);
        }
    }

    private static void tell(String fault) {
        wrong++;
        System.out.println("\"" + sentence + "\": " + fault);
    }

    static void end(String name) {
        System.out.println(name + ": " + tested + " sentences, " + (wrong == 0 ? "all hold" : wrong + " answers are wrong"));
        if (wrong != 0) {
            System.exit(1);
        }
    }

    /** The numbers next to the range, far from it, and those that a narrower type would take for its own. */
    static void refuses(String call, IntUnaryOperator answer, int least, int most) {
        int[] tries = {least - 1, most + 1, least - 2, most + 2, least - 256, most + 256, least - 65536, least + 65536,
            most + 65536, Integer.MIN_VALUE, Integer.MIN_VALUE + 1, Integer.MIN_VALUE + most, Integer.MAX_VALUE,
            Integer.MAX_VALUE - 1};
        for (int number : tries) {
            if (number < least || number > most) {
                due(call + " with " + number, answer.applyAsInt(number), INVALID);
            }
        }
    }

    static CalledTouches of(int bells) {
        CalledTouches ring = new CalledTouches();
        ring.bells(bells);
        return ring;
    }

    static void write(CalledTouches ring, String text) {
        ring.clear();
        for (int i = 0; i < text.length(); i++) {
            ring.append(text.charAt(i));
        }
    }

    /** A ring with so many bells, the method and the touch; the touch may be empty. */
    static CalledTouches ringing(int bells, String method, String touch) {
        CalledTouches ring = of(bells);
        write(ring, method);
        due("method " + method, ring.method(), method.split("\\.").length);
        if (!touch.isEmpty()) {
            write(ring, touch);
            due("touch " + touch, ring.touch(), touch.length());
        }
        return ring;
    }

    static String row(CalledTouches ring, int row) {
        StringBuilder text = new StringBuilder();
        for (int place = 1; place <= ring.count(0); place++) {
            text.append(ring.bell(row, place));
        }
        return text.toString();
    }

    static void dueRows(CalledTouches ring, String... rows) {
        due("the last row", ring.count(3), rows.length - 1);
        for (int k = 0; k < rows.length; k++) {
            same("row " + k, row(ring, k), rows[k]);
        }
    }

    /** The bits of a change that is written as in a method's text. */
    static int bits(String change) {
        int bits = 0;
        for (char sign : change.toCharArray()) {
            bits += sign == 'x' ? 0 : 1 << (sign - '1');
        }
        return bits;
    }

    static void dueMethod(CalledTouches ring, String method) {
        String[] changes = method.split("\\.");
        due("changes of a lead", ring.count(1), changes.length);
        for (int i = 0; i < changes.length; i++) {
            due("change(-1, " + i + ")", ring.change(-1, i), bits(changes[i]));
        }
        due("behind the last change", ring.change(-1, changes.length), NONE);
    }

    /** The kinds of the leads as letters, told by their last changes; needs bob, single and plain to be different. */
    static String touch(CalledTouches ring) {
        return touch(ring, ring.count(1), ring.count(2), ring.count(12), ring.count(13));
    }

    private static String touch(CalledTouches ring, int changes, int leads, int bob, int single) {
        StringBuilder text = new StringBuilder();
        for (int lead = 0; lead < leads; lead++) {
            int made = ring.change(lead, changes - 1);
            text.append(made == bob ? 'b' : made == single ? 's' : 'p');
        }
        return text.toString();
    }

    /** All that can be seen without a change; an object is good for 512 calls, so nothing is asked twice. */
    static String look(CalledTouches ring) {
        StringBuilder text = new StringBuilder();
        int[] counts = new int[16];
        for (int what = 0; what < counts.length; what++) {
            counts[what] = ring.count(what);
            text.append(counts[what]).append(' ');
        }
        for (int i = 0; i < counts[1]; i++) {
            text.append(ring.change(-1, i)).append('.');
        }
        text.append(' ').append(touch(ring, counts[1], counts[2], counts[12], counts[13]));
        return text.append(' ').append(ring.fault(0)).append(' ').append(ring.fault(1)).toString();
    }
}
