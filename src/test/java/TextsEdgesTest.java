/** Sentences that name a boundary: "Texts" in "Terms", and the promises 8 to 10. */
public final class TextsEdgesTest {
    private static final String NINETEEN = "x.".repeat(19);

    private TextsEdgesTest() {
    }

    public static void main(String[] args) {
        pad();
        append();
        clear();
        methodTexts();
        changesThatAreNotRight();
        fullPads();
        touchTexts();
        fault();
        Sentences.end("TextsEdgesTest");
    }

    private static void holds(String sentence, Runnable test) {
        Sentences.holds(sentence, test);
    }

    private static void due(String call, double got, double due) {
        Sentences.due(call, got, due);
    }

    private static void dueFault(int bells, String text, int way, int due) {
        CalledTouches ring = Sentences.of(bells);
        Sentences.write(ring, text);
        due("fault(" + way + ") of " + text + " with " + bells + " bells", ring.fault(way), due);
        due("fault(" + way + ") again", ring.fault(way), due);
        due("length", ring.count(14), text.length());
        due("states", ring.count(15), 1);
    }

    private static void dueMethodFault(int bells, String text, int due) {
        dueFault(bells, text, 0, due);
    }

    private static void dueTouchFault(String text, int due) {
        for (int bells = 4; bells <= 7; bells++) {
            dueFault(bells, text, 1, due);
        }
    }

    private static void pad() {
        holds("a pad of at most 80 characters, initially empty", () -> {
            CalledTouches ring = new CalledTouches();
            due("length at first", ring.count(14), 0);
            for (int length = 1; length <= 80; length++) {
                due("append", ring.append('x'), length);
            }
            due("length", ring.count(14), 80);
            due("append to 80", ring.append('x'), -3);
            due("length", ring.count(14), 80);
        });
        holds("It can be read in two ways", () -> {
            CalledTouches ring = new CalledTouches();
            Sentences.write(ring, "p");
            due("as a method", ring.fault(0), 0);
            due("as a touch", ring.fault(1), -4);
            Sentences.write(ring, "x");
            due("as a method", ring.fault(0), -4);
            due("as a touch", ring.fault(1), 0);
        });
    }

    private static void append() {
        holds("code: the character code, 33 to 126", () -> {
            CalledTouches ring = new CalledTouches();
            due("append(33)", ring.append(33), 1);
            due("append(126)", ring.append(126), 2);
            due("append('x')", ring.append(120), 3);
            ring.clear();
            for (int code = 33; code <= 126; code++) {
                if (ring.count(14) == 80) {
                    ring.clear();
                }
                due("append(" + code + ")", ring.append(code), ring.count(14));
            }
        });
        holds("append: INVALID_ARGUMENT", () -> {
            CalledTouches ring = new CalledTouches();
            Sentences.refuses("append", ring::append, 33, 126);
            due("append(0)", ring.append(0), -1);
            due("append(10)", ring.append(10), -1);
            due("append of an x and 65536", ring.append('x' + 65536), -1);
            due("append of an x less 256", ring.append('x' - 256), -1);
            due("length", ring.count(14), 0);
        });
        holds("LIMIT_REACHED if it has 80 characters", () -> {
            CalledTouches ring = new CalledTouches();
            Sentences.write(ring, "p".repeat(79));
            due("append to 79", ring.append('p'), 80);
            due("append to 80", ring.append('p'), -3);
            due("append to 80 again", ring.append(126), -3);
            due("clear", ring.clear(), 80);
            due("append", ring.append('p'), 1);
            due("fault", ring.fault(1), -4);
        });
        holds("INVALID_ARGUMENT rather than LIMIT_REACHED (append)", () -> {
            CalledTouches ring = new CalledTouches();
            Sentences.write(ring, "p".repeat(80));
            Sentences.refuses("append to 80", ring::append, 33, 126);
            due("length", ring.count(14), 80);
        });
        holds("(append, clear) no changes of the state", () -> {
            CalledTouches ring = new CalledTouches();
            ring.append('x');
            ring.clear();
            ring.append('x');
            due("states", ring.count(15), 0);
            due("undo", ring.undo(), -2);
            due("length", ring.count(14), 1);
        });
    }

    private static void clear() {
        holds("Empties the pad. Returns the length that it had", () -> {
            CalledTouches ring = new CalledTouches();
            due("clear of an empty one", ring.clear(), 0);
            ring.append('x');
            due("clear of one character", ring.clear(), 1);
            due("length", ring.count(14), 0);
            due("fault", ring.fault(0), 0);
            Sentences.write(ring, "~".repeat(80));
            due("clear of a full one", ring.clear(), 80);
            due("clear again", ring.clear(), 0);
            due("append", ring.append('x'), 1);
            due("fault", ring.fault(0), -4);
        });
    }

    private static void methodTexts() {
        holds("1 to 20 changes", () -> {
            dueMethodFault(6, "x", -4);
            dueMethodFault(6, NINETEEN + "x", -4);
            dueMethodFault(6, NINETEEN + "1456", -4);
            dueMethodFault(6, NINETEEN + "x.", 39);
            dueMethodFault(6, NINETEEN + "x.x", 39);
            dueMethodFault(6, NINETEEN + "14.x", 40);
            dueMethodFault(7, "1.".repeat(19) + "1", -4);
            dueMethodFault(7, "1.".repeat(20), 39);
        });
        holds("with \".\" between two", () -> {
            dueMethodFault(6, ".", 0);
            dueMethodFault(6, ".x", 0);
            dueMethodFault(6, "x.", 2);
            dueMethodFault(6, "x..", 2);
            dueMethodFault(6, "x..x", 2);
            dueMethodFault(6, "xx", 1);
            dueMethodFault(6, "x14", 1);
            dueMethodFault(6, "14x", 2);
            dueMethodFault(6, "x,14", 1);
            dueMethodFault(6, "x-14", 1);
            dueMethodFault(6, "x/14", 1);
            dueMethodFault(6, "x.14.12.", 8);
            dueMethodFault(6, NINETEEN, 38);
        });
        holds("a change is \"x\" (no place is made)", () -> {
            dueMethodFault(4, "x", -4);
            dueMethodFault(5, "x", 0);
            dueMethodFault(6, "x", -4);
            dueMethodFault(7, "x", 0);
            dueMethodFault(7, "1.x", 2);
            dueMethodFault(6, "X", 0);
            dueMethodFault(6, "y", 0);
            dueMethodFault(6, "w", 0);
            CalledTouches ring = Sentences.ringing(6, "x.14.x", "");
            Sentences.dueMethod(ring, "x.14.x");
        });
        holds("or the digits of the places that are made, rising", () -> {
            dueMethodFault(6, "11", 1);
            dueMethodFault(6, "141", 2);
            dueMethodFault(6, "144", 2);
            dueMethodFault(6, "31", 1);
            dueMethodFault(6, "3433", 2);
            dueMethodFault(7, "321", 1);
            dueMethodFault(7, "12345", -4);
            dueMethodFault(6, "12.11", 4);
        });
        holds("each 1 to n", () -> {
            for (int bells = 4; bells <= 7; bells++) {
                String below = "1".repeat(bells % 2);
                dueMethodFault(bells, "0", 0);
                dueMethodFault(bells, "10", 1);
                dueMethodFault(bells, below + (bells - 1) + bells, -4);
                dueMethodFault(bells, "" + (bells + 1), 0);
                dueMethodFault(bells, "1" + (bells + 1), 1);
                dueMethodFault(bells, "8", 0);
                dueMethodFault(bells, "9", 0);
                dueMethodFault(bells, "/", 0);
                dueMethodFault(bells, ":", 0);
                dueMethodFault(bells, "!", 0);
                dueMethodFault(bells, "~", 0);
            }
        });
        holds("if there is none, and the pad is not complete (also if it is empty), the length of the pad", () -> {
            for (int bells = 4; bells <= 7; bells++) {
                dueMethodFault(bells, "", 0);
            }
            dueMethodFault(6, "1", 1);
            dueMethodFault(6, "x.1", 3);
            dueMethodFault(6, "x.", 2);
            dueMethodFault(6, "145", 3);
            dueMethodFault(6, NINETEEN + "1", 39);
            dueMethodFault(5, "5.1.12", 6);
        });
        holds("the first character that is wrong", () -> {
            dueMethodFault(6, "pp", 0);
            dueMethodFault(6, "x.14.p.p", 5);
            dueMethodFault(6, "x.14.x!", 6);
            dueMethodFault(6, "x.1.p", 3);
            dueMethodFault(6, "1p", 1);
        });
    }

    private static void changesThatAreNotRight() {
        holds("A change that .. could become right by another digit behind it, is not complete", () -> {
            dueMethodFault(4, "1", 1);
            dueMethodFault(5, "12", 2);
            dueMethodFault(5, "14", 2);
            dueMethodFault(5, "34", 2);
            dueMethodFault(6, "1", 1);
            dueMethodFault(6, "3", 1);
            dueMethodFault(6, "5", 1);
            dueMethodFault(6, "123", 3);
            dueMethodFault(6, "125", 3);
            dueMethodFault(6, "145", 3);
            dueMethodFault(7, "1234", 4);
            dueMethodFault(7, "16", 2);
            dueMethodFault(7, "56", 2);
            dueMethodFault(7, "1236", 4);
        });
        holds("one behind which no digit makes it right, is wrong at its last digit", () -> {
            dueMethodFault(4, "2", 0);
            dueMethodFault(4, "4", 0);
            dueMethodFault(4, "13", 1);
            dueMethodFault(4, "124", 2);
            dueMethodFault(5, "2", 0);
            dueMethodFault(5, "4", 0);
            dueMethodFault(5, "13", 1);
            dueMethodFault(5, "15", 1);
            dueMethodFault(5, "35", 1);
            dueMethodFault(6, "13", 1);
            dueMethodFault(6, "146", 2);
            dueMethodFault(6, "2", 0);
            dueMethodFault(6, "4", 0);
            dueMethodFault(6, "6", 0);
            dueMethodFault(6, "x.6", 2);
            dueMethodFault(7, "2", 0);
            dueMethodFault(7, "6", 0);
            dueMethodFault(7, "124", 2);
            dueMethodFault(7, "17", 1);
            dueMethodFault(7, "1.24", 2);
        });
        holds("only right changes: wrong, where all places would have to be made", () -> {
            dueMethodFault(4, "12", -4);
            dueMethodFault(4, "123", 2);
            dueMethodFault(4, "1234", 2);
            dueMethodFault(5, "123", -4);
            dueMethodFault(5, "1234", 3);
            dueMethodFault(5, "12345", 3);
            dueMethodFault(6, "1234", -4);
            dueMethodFault(6, "12345", 4);
            dueMethodFault(6, "123456", 4);
            dueMethodFault(7, "12345", -4);
            dueMethodFault(7, "123456", 5);
            dueMethodFault(7, "1234567", 5);
            dueMethodFault(6, "x.12345", 6);
        });
        holds("only right changes: \".\" behind one that is not right yet is wrong", () -> {
            dueMethodFault(4, "1.", 1);
            dueMethodFault(6, "1.x", 1);
            dueMethodFault(6, "x.3.", 3);
            dueMethodFault(5, "12.", 2);
            dueMethodFault(7, "1.16.3", 4);
        });
        holds("no pad of that kind begins with the characters before it and this character (each short text)", () -> {
            for (int bells = 4; bells <= 7; bells++) {
                tryTexts(bells, "", 3);
                for (int bits = 1; bits < 1 << bells; bits++) {
                    dueMethodFault(bells, digits(bits), faultOfChange(bells, digits(bits)));
                }
            }
        });
        holds("right changes may end with any right digit", () -> {
            dueMethodFault(4, "34.14.12", -4);
            dueMethodFault(5, "1.3.5.123.125.145.345", -4);
            dueMethodFault(6, "1236.1256.1456.3456.36.56.34.16", -4);
            dueMethodFault(7, "34567.14567.12567.12367.167.347", -4);
        });
    }

    private static void tryTexts(int bells, String text, int more) {
        if (!text.isEmpty()) {
            dueMethodFault(bells, text, faultOfChange(bells, text));
        }
        for (int i = 0; i < 8 && more > 0; i++) {
            tryTexts(bells, text + "x1234567".charAt(i), more - 1);
        }
    }

    private static String digits(int bits) {
        StringBuilder text = new StringBuilder();
        for (int place = 1; place <= 7; place++) {
            text.append((bits >> place - 1 & 1) == 1 ? "" + place : "");
        }
        return text.toString();
    }

    private static int faultOfChange(int bells, String text) {
        for (int length = 1; length <= text.length(); length++) {
            if (rightChanges(bells, text.substring(0, length), false) == 0) {
                return length - 1;
            }
        }
        return rightChanges(bells, text, true) == 1 ? -4 : text.length();
    }

    private static int rightChanges(int bells, String text, boolean whole) {
        int right = 0;
        for (String change : Sentences.RIGHT[bells - 4]) {
            right += (whole ? change.equals(text) : change.startsWith(text)) ? 1 : 0;
        }
        return right;
    }

    private static void fullPads() {
        holds("(the full pad) read as a method", () -> {
            String full = "1234.".repeat(11) + "12.".repeat(8) + "x";
            dueMethodFault(6, full, -4);
            dueMethodFault(6, "1234.".repeat(16), 80);
            dueMethodFault(6, "1234.".repeat(15) + "x.x.x", -4);
            dueMethodFault(6, "1234.".repeat(15) + "x.x.1", 80);
            dueMethodFault(6, "1234.".repeat(15) + "x.x.2", 79);
            dueMethodFault(6, "1234.".repeat(15) + "x.xxx", 78);
            dueMethodFault(6, "x".repeat(80), 1);
            dueMethodFault(6, "!".repeat(80), 0);
            dueMethodFault(6, "x.".repeat(40), 39);
        });
        holds("(the full pad) read as a touch", () -> {
            dueTouchFault("p".repeat(80), 16);
            dueTouchFault("b".repeat(15) + "x".repeat(65), 15);
            dueTouchFault("x" + "p".repeat(79), 0);
        });
    }

    private static void touchTexts() {
        holds("A touch: 1 to 16 letters \"p\", \"b\" or \"s\"", () -> {
            dueTouchFault("p", -4);
            dueTouchFault("b", -4);
            dueTouchFault("s", -4);
            dueTouchFault("pbspbspbspbspbs", -4);
            dueTouchFault("pbspbspbspbspbsp", -4);
            dueTouchFault("pbspbspbspbspbspb", 16);
            dueTouchFault("pbspbspbspbspbspx", 16);
            dueTouchFault("pbspbspbspbspbspbs", 16);
            dueTouchFault("pbspbspbspbspbsx", 15);
            dueTouchFault("pbspbspbspbspbsxp", 15);
        });
        holds("one behind the other", () -> {
            dueTouchFault("p.b", 1);
            dueTouchFault("p,b", 1);
            dueTouchFault(".p", 0);
            dueTouchFault("pb.", 2);
        });
        holds("plain, bob, single: no other letters", () -> {
            for (char sign = 33; sign <= 126; sign++) {
                boolean isKind = "pbs".indexOf(sign) >= 0;
                dueFault(6, "s" + sign, 1, isKind ? -4 : 1);
            }
        });
        holds("(also if it is empty), read as a touch", () -> dueTouchFault("", 0));
    }

    private static void fault() {
        holds("way: 0 if it is read as a method, 1 if it is read as a touch; INVALID_ARGUMENT", () -> {
            CalledTouches ring = new CalledTouches();
            Sentences.refuses("fault of an empty pad", ring::fault, 0, 1);
            Sentences.write(ring, "x");
            Sentences.refuses("fault of a method", ring::fault, 0, 1);
            Sentences.write(ring, "p");
            Sentences.refuses("fault of a touch", ring::fault, 0, 1);
            due("length", ring.count(14), 1);
            due("as a touch", ring.fault(1), -4);
        });
        holds("NOT_FOUND if it has none", () -> {
            CalledTouches ring = new CalledTouches();
            Sentences.write(ring, "x.16");
            due("as a method", ring.fault(0), -4);
            due("as a touch", ring.fault(1), 0);
            Sentences.write(ring, "spb");
            due("as a method", ring.fault(0), 0);
            due("as a touch", ring.fault(1), -4);
        });
        holds("(fault) after each character as the pad is then", () -> {
            CalledTouches ring = new CalledTouches();
            String text = "x.145.6";
            int[] dues = {-4, 2, 3, -4, 5, 5, 5};
            for (int i = 0; i < text.length(); i++) {
                ring.append(text.charAt(i));
                due("fault behind " + (i + 1), ring.fault(0), dues[i]);
            }
        });
        holds("(fault) tells what the places are with so many bells as there are", () -> {
            CalledTouches ring = new CalledTouches();
            Sentences.write(ring, "5");
            int[] dues = {0, -4, 1, -4};
            for (int bells = 4; bells <= 7; bells++) {
                ring.bells(bells);
                due("fault with " + bells, ring.fault(0), dues[bells - 4]);
            }
        });
    }
}
