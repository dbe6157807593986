import java.util.HashSet;
import java.util.Set;

/** Sentences that name a boundary: rows and changes, method, calls and touch ("Terms"), and the promises 1 to 7. */
public final class ChangesEdgesTest {
    private static final String TWENTY = "x" + ".x".repeat(18) + ".12";
    private static final String[] BEGINNINGS = {"x.14.x.14.x.14.x.12", "5.1.5.1.5.1.5.1.5.125",
        "x.16.x.16.x.16.x.16.x.16.x.12", "7.1.7.1.7.1.7.1.7.1.7.1.7.127"};
    private static final String[] BOBS = {"14", "145", "14", "147"};
    private static final String[] SINGLES = {"34", "123", "1234", "12347"};

    private ChangesEdgesTest() {
    }

    public static void main(String[] args) {
        rowsAndChanges();
        methodCallsAndTouch();
        newObject();
        bells();
        method();
        call();
        touch();
        add();
        cut();
        Sentences.end("ChangesEdgesTest");
    }

    private static void holds(String sentence, Runnable test) {
        Sentences.holds(sentence, test);
    }

    private static void due(String call, double got, double due) {
        Sentences.due(call, got, due);
    }

    private static void same(String what, String got, String due) {
        Sentences.same(what, got, due);
    }

    private static CalledTouches of(int bells) {
        return Sentences.of(bells);
    }

    private static void write(CalledTouches ring, String text) {
        Sentences.write(ring, text);
    }

    private static void dueBeginning(CalledTouches ring, int bells) {
        due("bells", ring.count(0), bells);
        Sentences.dueMethod(ring, BEGINNINGS[bells - 4]);
        due("the bob", ring.count(12), Sentences.bits(BOBS[bells - 4]));
        due("the single", ring.count(13), Sentences.bits(SINGLES[bells - 4]));
        due("leads", ring.count(2), 0);
        due("the last row", ring.count(3), 0);
    }

    private static void rowsAndChanges() {
        holds("There are n bells, 4 to 7 (6 at first)", () -> {
            due("bells at first", new CalledTouches().count(0), 6);
            for (int bells = 4; bells <= 7; bells++) {
                due("bells then", of(bells).count(0), bells);
            }
        });
        holds("numbered from 1 to n, and as many places, numbered from 1 to n", () -> {
            for (int bells = 4; bells <= 7; bells++) {
                CalledTouches ring = of(bells);
                ring.add(0);
                for (int number = 1; number <= bells; number++) {
                    due("the bell at the place", ring.bell(0, number), number);
                    due("the bell's dodges", ring.path(number, 0) >= 0 ? 1 : 0, 1);
                }
                due("bell at 0", ring.bell(0, 0), -1);
                due("bell at n + 1", ring.bell(0, bells + 1), -1);
                due("the bell 0", ring.path(0, 0), -1);
                due("the bell n + 1", ring.path(bells + 1, 0), -1);
            }
        });
        holds("Rounds are the row 1, 2, .. n", () -> {
            for (int bells = 4; bells <= 7; bells++) {
                same("row 0", Sentences.row(of(bells), 0), "1234567".substring(0, bells));
            }
        });
        holds("the first one that is not made and the next place change their bells", () -> {
            same("x", behind(4, "x"), "2143");
            same("12", behind(4, "12"), "1243");
            same("34", behind(4, "34"), "2134");
            same("14", behind(4, "14"), "1324");
            same("1", behind(5, "1"), "13254");
            same("5", behind(5, "5"), "21435");
            same("345", behind(5, "345"), "21345");
            same("3", behind(7, "3"), "2135476");
            same("12347", behind(7, "12347"), "1234657");
        });
        holds("an even number of places between those that are made, ahead of the first one, behind the last one",
            ChangesEdgesTest::onlyRightChanges);
        holds("and not all places are made", () -> {
            for (int bells = 4; bells <= 7; bells++) {
                CalledTouches ring = of(bells);
                int all = (1 << bells) - 1;
                due("all as a bob", ring.call(1, all), -1);
                due("all as a single", ring.call(2, all), -1);
                due("all but the last two", ring.call(1, all >> 2), Sentences.bits(BOBS[bells - 4]));
            }
        });
        holds("the place p counts 2 to the power of p - 1", () -> {
            CalledTouches ring = of(7);
            ring.add(1);
            for (int place = 1; place <= 7; place += 2) {
                ring.call(1, (int) Math.pow(2, place - 1));
                due("the place stays", ring.bell(14, place), ring.bell(13, place));
                due("the change", ring.change(0, 13), 1 << (place - 1));
            }
        });
    }

    /** The row behind one change. */
    private static String behind(int bells, String change) {
        return Sentences.row(Sentences.ringing(bells, change, "p"), 1);
    }

    private static void onlyRightChanges() {
        for (int bells = 4; bells <= 7; bells++) {
            Set<Integer> right = new HashSet<>();
            for (String change : Sentences.RIGHT[bells - 4]) {
                right.add(Sentences.bits(change));
            }
            CalledTouches ring = of(bells);
            int before = ring.count(13);
            for (int places = -2; places <= 260; places++) {
                int answer = ring.call(2, places);
                due("with " + bells + " bells call(2, " + places + ")", answer, right.contains(places) ? before : -1);
                before = right.contains(places) ? places : before;
            }
            due("the single", ring.count(13), before);
        }
    }

    private static void methodCallsAndTouch() {
        holds("A method is a row of 1 to 20 changes", () -> {
            CalledTouches ring = of(4);
            due("no change", ring.method(), -2);
            write(ring, "x");
            due("1 change", ring.method(), 1);
            write(ring, TWENTY);
            due("20 changes", ring.method(), 20);
            Sentences.dueMethod(ring, TWENTY);
            write(ring, TWENTY + ".x");
            due("21 changes", ring.method(), -2);
            Sentences.dueMethod(ring, TWENTY);
        });
        holds("changes that are rung in place of the last change of a lead", () -> {
            CalledTouches ring = Sentences.ringing(4, "14.34", "pbs");
            ring.call(1, 0);
            ring.call(2, 3);
            int[] due = {9, 12, 9, 0, 9, 3};
            for (int i = 0; i < due.length; i++) {
                due("change " + i, ring.change(i / 2, i % 2), due[i]);
            }
            Sentences.dueRows(ring, "1234", "1324", "3124", "3214", "2341", "2431", "2413");
        });
        holds("in place of the last change, also if it is the only one", () -> {
            CalledTouches ring = Sentences.ringing(4, "x", "bsp");
            Sentences.dueRows(ring, "1234", "1324", "3124", "1342");
        });
        holds("A touch is a row of 0 to 16 leads", () -> {
            CalledTouches ring = of(5);
            due("no leads", ring.count(2), 0);
            write(ring, "p".repeat(16));
            due("16 leads", ring.touch(), 16);
            write(ring, "p".repeat(17));
            due("17 leads", ring.touch(), -2);
            due("leads", ring.count(2), 16);
        });
        holds("a touch of t leads of c changes each has the rows 0 to t * c", () -> {
            CalledTouches ring = of(4);
            dueLastRow(ring, 0);
            ring.add(0);
            dueLastRow(ring, 8);
            write(ring, "p".repeat(16));
            ring.touch();
            dueLastRow(ring, 128);
            write(ring, TWENTY);
            ring.method();
            dueLastRow(ring, 320);
            write(ring, "x");
            ring.method();
            dueLastRow(ring, 16);
        });
        holds("the row k is the row behind k changes", () -> {
            CalledTouches ring = Sentences.ringing(4, TWENTY, "p".repeat(15) + "s");
            same("row 19", Sentences.row(ring, 19), "2143");
            same("row 20", Sentences.row(ring, 20), "2134");
            same("row 319", Sentences.row(ring, 319), "1243");
            same("row 320", Sentences.row(ring, 320), "2143");
        });
        holds("At the beginning the touch has no leads, and the method, the bob and the single are ..", () -> {
            for (int bells = 4; bells <= 7; bells++) {
                dueBeginning(of(bells), bells);
            }
            dueBeginning(new CalledTouches(), 6);
        });
    }

    private static void dueLastRow(CalledTouches ring, int last) {
        due("the last row", ring.count(3), last);
        due("a bell of row 0", ring.bell(0, 1), 1);
        due("a bell of the last row", ring.bell(last, 1) >= 1 ? 1 : 0, 1);
        due("a bell of the row behind it", ring.bell(last + 1, 1), -1);
        due("a number of the row behind it", ring.row(last + 1, 0), -1);
    }

    private static void newObject() {
        holds("Creates a ring of 6 bells", () -> {
            CalledTouches ring = new CalledTouches();
            dueBeginning(ring, 6);
            same("row 0", Sentences.row(ring, 0), "123456");
        });
        holds("(new) the pad is initially empty, there is no state in the history, and no snapshot", () -> {
            CalledTouches ring = new CalledTouches();
            due("the pad", ring.count(14), 0);
            due("clear", ring.clear(), 0);
            due("the history", ring.count(15), 0);
            due("undo", ring.undo(), -2);
            due("restore", ring.restore(), -2);
        });
        holds("(new) an object has nothing of another one", () -> {
            CalledTouches used = of(4);
            used.add(1);
            used.call(1, 0);
            used.append('x');
            used.save();
            CalledTouches ring = new CalledTouches();
            dueBeginning(ring, 6);
            due("the pad", ring.count(14), 0);
            due("the history", ring.count(15), 0);
            due("restore", ring.restore(), -2);
            due("the used one", used.count(0), 4);
        });
        holds("An object is used for at most 512 calls", () -> {
            CalledTouches ring = new CalledTouches();
            for (int i = 0; i < 169; i++) {
                due("add", ring.add(i % 3), 2 * (i % 8) + 1);
                due("add", ring.add(0), 2 * (i % 8) + 2);
                due("leads", i % 8 == 7 ? ring.cut(0) : ring.count(2), 2 * (i % 8) + 2);
            }
            due("the last row", ring.count(3), 24);
            due("a bell", ring.bell(24, 6) >= 1 ? 1 : 0, 1);
            due("states", ring.count(15), 4);
            due("undo", ring.undo(), 3);
            due("call 512", ring.count(2), 1);
        });
    }

    private static void bells() {
        holds("bells: 4 to 7", () -> {
            CalledTouches ring = new CalledTouches();
            int before = 6;
            for (int bells = 4; bells <= 7; bells++) {
                due("bells(" + bells + ")", ring.bells(bells), before);
                before = bells;
            }
            due("bells(4)", ring.bells(4), 7);
        });
        holds("bells: INVALID_ARGUMENT", () -> {
            CalledTouches ring = of(5);
            ring.add(1);
            Sentences.refuses("bells", ring::bells, 4, 7);
            due("bells", ring.count(0), 5);
            due("leads", ring.count(2), 1);
            due("states", ring.count(15), 2);
        });
        holds("method, calls and touch are those of the beginning with so many bells then", () -> {
            for (int bells = 4; bells <= 7; bells++) {
                CalledTouches ring = Sentences.ringing(4, "x.12", "bs");
                ring.call(1, 0);
                ring.call(2, 9);
                ring.bells(bells);
                dueBeginning(ring, bells);
            }
        });
        holds("(also if there are so many already)", () -> {
            CalledTouches ring = Sentences.ringing(6, "x.12.36", "bs");
            ring.call(1, 0);
            ring.call(2, 12);
            due("bells(6)", ring.bells(6), 6);
            dueBeginning(ring, 6);
            due("states", ring.count(15), 4);
            due("bells(6) again", ring.bells(6), 6);
            dueBeginning(ring, 6);
        });
        holds("(bells) the touch begins anew: no lead comes back by adding others", () -> {
            CalledTouches ring = new CalledTouches();
            ring.add(1);
            ring.add(2);
            ring.bells(6);
            ring.add(0);
            ring.add(0);
            same("the touch", Sentences.touch(ring), "pp");
        });
        holds("(bells) the pad stays", () -> {
            CalledTouches ring = new CalledTouches();
            write(ring, "5.1");
            due("fault with 6", ring.fault(0), 1);
            ring.bells(5);
            due("length", ring.count(14), 3);
            due("fault with 5", ring.fault(0), -4);
        });
    }

    private static void method() {
        holds("method: NOT_POSSIBLE if the pad has a fault, read as a method", () -> {
            String[] faulty = {"", ".", "x.", "p", "1", "x.1", "1.x", "x.x.", "123456", TWENTY + ".", TWENTY + ".x",
                "x".repeat(80), "~"};
            for (String text : faulty) {
                CalledTouches ring = Sentences.ringing(6, "36.14", "p");
                write(ring, text);
                due("method of " + text, ring.method(), -2);
                due("the pad stays", ring.count(14), text.length());
                Sentences.dueMethod(ring, "36.14");
                due("states", ring.count(15), 3);
            }
        });
        holds("(method) right with so many bells only", () -> {
            CalledTouches ring = of(7);
            write(ring, "x");
            due("x with 7", ring.method(), -2);
            ring.bells(6);
            due("x with 6", ring.method(), 1);
            write(ring, "56");
            ring.bells(5);
            due("56 with 5", ring.method(), -2);
            ring.bells(6);
            due("56 with 6", ring.method(), 1);
        });
        holds("and empties the pad; the touch stays", () -> {
            CalledTouches ring = Sentences.ringing(6, "x", "bspbspbspbspbspb");
            write(ring, TWENTY);
            due("method", ring.method(), 20);
            due("the pad", ring.count(14), 0);
            due("the pad is empty", ring.clear(), 0);
            same("the touch", Sentences.touch(ring), "bspbspbspbspbspb");
            due("the bob", ring.count(12), 9);
            due("the single", ring.count(13), 15);
        });
        holds("(method) also of a full pad", () -> {
            String full = "1234.".repeat(11) + "12.".repeat(8) + "x";
            CalledTouches ring = of(6);
            write(ring, full);
            due("length", ring.count(14), 80);
            due("method", ring.method(), 20);
            Sentences.dueMethod(ring, full);
            due("the pad", ring.count(14), 0);
        });
        holds("Returns how many changes a lead has then", () -> {
            for (int changes = 1; changes <= 20; changes++) {
                CalledTouches ring = of(4);
                write(ring, "14" + ".x".repeat(changes - 1));
                due("method", ring.method(), changes);
                due("changes", ring.count(1), changes);
            }
            CalledTouches ring = of(4);
            write(ring, "34");
            due("method", ring.method(), 1);
            due("a second change", ring.change(-1, 1), -4);
        });
    }

    private static void call() {
        holds("kind: 1: the bob; 2: the single", () -> {
            CalledTouches ring = new CalledTouches();
            due("call(1, 3)", ring.call(1, 3), 9);
            due("the bob", ring.count(12), 3);
            due("the single stays", ring.count(13), 15);
            due("call(2, 33)", ring.call(2, 33), 15);
            due("the bob stays", ring.count(12), 3);
            due("the single", ring.count(13), 33);
            due("states", ring.count(15), 2);
        });
        holds("call: INVALID_ARGUMENT for another kind", () -> {
            CalledTouches ring = new CalledTouches();
            Sentences.refuses("call(kind, 3)", kind -> ring.call(kind, 3), 1, 2);
            Sentences.refuses("call(kind, 1)", kind -> ring.call(kind, 1), 1, 2);
            due("the bob", ring.count(12), 9);
            due("the single", ring.count(13), 15);
            due("states", ring.count(15), 0);
        });
        holds("call: INVALID_ARGUMENT (also if the change is not right)", () -> {
            CalledTouches ring = new CalledTouches();
            int[] wrongs = {1, 2, 4, 5, 32, 31, 62, 63, 64, 64 + 9, 128 + 9, 256, 65536, 65536 + 9, 1 << 30, -1, -9, -64,
                Integer.MAX_VALUE, Integer.MIN_VALUE, Integer.MIN_VALUE + 9, Integer.MIN_VALUE + 63};
            for (int places : wrongs) {
                due("call(1, " + places + ")", ring.call(1, places), -1);
                due("call(2, " + places + ")", ring.call(2, places), -1);
                due("call(3, " + places + ")", ring.call(3, places), -1);
            }
            due("the bob", ring.count(12), 9);
            due("the single", ring.count(13), 15);
            due("states", ring.count(15), 0);
        });
        holds("call: no place may be made, if the number of bells is even", () -> {
            for (int bells = 4; bells <= 7; bells++) {
                CalledTouches ring = of(bells);
                due("call(1, 0)", ring.call(1, 0), bells % 2 == 0 ? 9 : -1);
                due("call(2, 0) again", ring.call(2, 0) == -1 ? 1 : 0, bells % 2);
            }
        });
    }

    private static void touch() {
        holds("touch: NOT_POSSIBLE if the pad has a fault, read as a touch", () -> {
            String[] faulty = {"", "x", "P", "p.", ".p", "ppq", "pb".repeat(8) + "p", "pb".repeat(8) + "x",
                "p".repeat(80), "x.14"};
            for (String text : faulty) {
                CalledTouches ring = Sentences.ringing(6, "x", "sb");
                write(ring, text);
                due("touch of " + text, ring.touch(), -2);
                due("the pad stays", ring.count(14), text.length());
                same("the touch", Sentences.touch(ring), "sb");
                due("states", ring.count(15), 3);
            }
        });
        holds("Makes the touch of the pad the touch, and empties the pad", () -> {
            CalledTouches ring = of(6);
            String[] touches = {"s", "pbs", "b".repeat(16), "p", "spbspbspbspbspbs"};
            for (String text : touches) {
                write(ring, text);
                due("touch", ring.touch(), text.length());
                same("the touch", Sentences.touch(ring), text);
                due("leads", ring.count(2), text.length());
                due("the pad", ring.count(14), 0);
            }
            due("the emptied pad has a fault", ring.touch(), -2);
            dueMethodAndCalls(ring);
        });
    }

    private static void dueMethodAndCalls(CalledTouches ring) {
        Sentences.dueMethod(ring, BEGINNINGS[2]);
        due("the bob", ring.count(12), 9);
        due("the single", ring.count(13), 15);
    }

    private static void add() {
        holds("kind: 0 plain, 1 with a bob, 2 with a single", () -> {
            CalledTouches ring = new CalledTouches();
            due("plain", ring.add(0), 1);
            due("bob", ring.add(1), 2);
            due("single", ring.add(2), 3);
            same("the touch", Sentences.touch(ring), "pbs");
        });
        holds("add: INVALID_ARGUMENT", () -> {
            CalledTouches ring = new CalledTouches();
            Sentences.refuses("add", ring::add, 0, 2);
            due("leads", ring.count(2), 0);
            due("states", ring.count(15), 0);
        });
        holds("LIMIT_REACHED if it has 16", () -> {
            CalledTouches ring = new CalledTouches();
            for (int leads = 1; leads <= 16; leads++) {
                due("add", ring.add(leads % 3), leads);
            }
            for (int kind = 0; kind <= 2; kind++) {
                due("add to 16", ring.add(kind), -3);
            }
            due("leads", ring.count(2), 16);
            same("the touch", Sentences.touch(ring), "bspbspbspbspbspb");
            ring.cut(15);
            due("add to 15", ring.add(2), 16);
            same("the touch", Sentences.touch(ring), "bspbspbspbspbsps");
            due("add to 16 again", ring.add(0), -3);
        });
        holds("INVALID_ARGUMENT rather than LIMIT_REACHED (add)", () -> {
            CalledTouches ring = of(4);
            write(ring, "p".repeat(16));
            ring.touch();
            Sentences.refuses("add to 16", ring::add, 0, 2);
            due("states", ring.count(15), 2);
        });
    }

    private static void cut() {
        holds("leads: 0 to the number of its leads: how many are left", () -> {
            CalledTouches ring = new CalledTouches();
            write(ring, "pbspbspbspbspbsp");
            ring.touch();
            due("cut(16)", ring.cut(16), 16);
            same("the touch", Sentences.touch(ring), "pbspbspbspbspbsp");
            due("cut(15)", ring.cut(15), 16);
            due("cut(2)", ring.cut(2), 15);
            same("the touch", Sentences.touch(ring), "pb");
            due("cut(1)", ring.cut(1), 2);
            due("cut(0)", ring.cut(0), 1);
            due("cut(0) of none", ring.cut(0), 0);
            due("leads", ring.count(2), 0);
        });
        holds("cut: INVALID_ARGUMENT", () -> {
            CalledTouches ring = new CalledTouches();
            for (int leads = 0; leads <= 16; leads += 4) {
                int most = leads;
                write(ring, "p".repeat(leads));
                ring.touch();
                Sentences.refuses("cut", ring::cut, 0, most);
                due("leads", ring.count(2), leads);
                due("states", ring.count(15), leads / 4);
            }
        });
        holds("(cut) leads that are cut off do not come back", () -> {
            CalledTouches ring = Sentences.ringing(4, "x", "bbbb");
            ring.cut(1);
            ring.add(0);
            ring.add(2);
            same("the touch", Sentences.touch(ring), "bps");
        });
    }
}
