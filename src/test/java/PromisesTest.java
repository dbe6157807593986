/** For each promise of the document: ordinary inputs, its edges, and wrong inputs. */
public final class PromisesTest {
    private static int wrong = 0;

    private PromisesTest() {
    }

    public static void main(String[] args) {
        newObject();
        bells();
        method();
        call();
        touch();
        addAndCut();
        appendAndClear();
        faultOfMethod();
        faultOfChange();
        faultOfTouch();
        bell();
        change();
        row();
        path();
        blows();
        count();
        music();
        home();
        homeCall();
        ifCalled();
        best();
        undo();
        saveAndRestore();
        System.out.println("PromisesTest: " + (wrong == 0 ? "all answers are as due" : wrong + " answers are wrong"));
        if (wrong != 0) {
            System.exit(1);
        }
    }

    private static void due(String call, double got, double due) {
        if (got != due) {
            wrong++;
            System.out.println(call + " answered " + got + ", due is " + due);
        }
    }

    private static CalledTouches of(int bells) {
        CalledTouches ring = new CalledTouches();
        ring.bells(bells);
        return ring;
    }

    private static void write(CalledTouches ring, String text) {
        ring.clear();
        for (int i = 0; i < text.length(); i++) {
            ring.append(text.charAt(i));
        }
    }

    private static CalledTouches ringing(int bells, String method, String touch) {
        CalledTouches ring = of(bells);
        write(ring, method);
        due("method " + method, ring.method(), method.split("\\.").length);
        write(ring, touch);
        due("touch " + touch, ring.touch(), touch.length());
        return ring;
    }

    private static String rowText(CalledTouches ring, int row) {
        StringBuilder text = new StringBuilder();
        for (int place = 1; place <= ring.count(0); place++) {
            text.append(ring.bell(row, place));
        }
        return text.toString();
    }

    private static void dueRow(CalledTouches ring, int row, String due) {
        String got = rowText(ring, row);
        due("row " + row + " is " + got + ", not " + due + "; the same", got.equals(due) ? 1 : 0, 1);
    }

    private static void dueChanges(CalledTouches ring, int... due) {
        due("changes of a lead", ring.count(1), due.length);
        for (int i = 0; i < due.length; i++) {
            due("change(-1, " + i + ")", ring.change(-1, i), due[i]);
        }
    }

    private static void newObject() {
        CalledTouches ring = new CalledTouches();
        due("bells", ring.count(0), 6);
        due("leads", ring.count(2), 0);
        due("last row", ring.count(3), 0);
        due("bob", ring.count(12), 9);
        due("single", ring.count(13), 15);
        due("pad", ring.count(14), 0);
        due("history", ring.count(15), 0);
        due("undo", ring.undo(), CalledTouches.NOT_POSSIBLE);
        due("restore", ring.restore(), CalledTouches.NOT_POSSIBLE);
        dueChanges(ring, 0, 33, 0, 33, 0, 33, 0, 33, 0, 33, 0, 3);
        dueRow(ring, 0, "123456");
        due("INVALID_ARGUMENT", CalledTouches.INVALID_ARGUMENT, -1);
        due("NOT_POSSIBLE", CalledTouches.NOT_POSSIBLE, -2);
        due("LIMIT_REACHED", CalledTouches.LIMIT_REACHED, -3);
        due("NOT_FOUND", CalledTouches.NOT_FOUND, -4);
    }

    private static void bells() {
        CalledTouches ring = new CalledTouches();
        due("bells(3)", ring.bells(3), -1);
        due("bells(8)", ring.bells(8), -1);
        due("history after errors", ring.count(15), 0);
        due("bells(4)", ring.bells(4), 6);
        dueChanges(ring, 0, 9, 0, 9, 0, 9, 0, 3);
        due("bob of 4", ring.count(12), 9);
        due("single of 4", ring.count(13), 12);
        due("bells(5)", ring.bells(5), 4);
        dueChanges(ring, 16, 1, 16, 1, 16, 1, 16, 1, 16, 19);
        due("bob of 5", ring.count(12), 25);
        due("single of 5", ring.count(13), 7);
        due("bells(7)", ring.bells(7), 5);
        dueChanges(ring, 64, 1, 64, 1, 64, 1, 64, 1, 64, 1, 64, 1, 64, 67);
        due("bob of 7", ring.count(12), 73);
        due("single of 7", ring.count(13), 79);
        ring.add(1);
        ring.call(1, 64);
        write(ring, "7.1");
        ring.method();
        ring.append('p');
        due("bells(7) again", ring.bells(7), 7);
        due("leads begin anew", ring.count(2), 0);
        due("no lead is called", ring.count(10), 0);
        due("the bob begins anew", ring.count(12), 73);
        due("the method begins anew", ring.count(1), 14);
        due("the pad stays", ring.count(14), 1);
        due("undo", ring.undo(), 3);
        due("leads are back", ring.count(2), 1);
        due("the method is back", ring.count(1), 2);
        due("the bob is back", ring.count(12), 64);
    }

    private static void method() {
        CalledTouches ring = of(4);
        ring.add(1);
        due("method of an empty pad", ring.method(), -2);
        write(ring, "x.1");
        due("method of an incomplete pad", ring.method(), -2);
        due("the pad stays", ring.count(14), 3);
        due("no state more", ring.count(15), 2);
        ring.append('4');
        due("method", ring.method(), 2);
        due("the pad is empty", ring.count(14), 0);
        due("the touch stays", ring.count(2), 1);
        due("a state more", ring.count(15), 3);
        dueChanges(ring, 0, 9);
        due("last row", ring.count(3), 2);
        write(ring, "x");
        due("method of one change", ring.method(), 1);
        due("the only change of a bob lead", ring.change(0, 0), 9);
        due("the only change of a plain lead", ring.change(-1, 0), 0);
        write(ring, "x.x.x.x.x.x.x.x.x.x.x.x.x.x.x.x.x.x.x.12");
        due("method of 20 changes", ring.method(), 20);
        due("the twentieth change", ring.change(-1, 19), 3);
        write(ring, "x.x.x.x.x.x.x.x.x.x.x.x.x.x.x.x.x.x.x.x.x");
        due("method of 21 changes", ring.method(), -2);
    }

    private static void call() {
        CalledTouches ring = of(6);
        due("call(0, 3)", ring.call(0, 3), -1);
        due("call(3, 3)", ring.call(3, 3), -1);
        due("call(1, -1)", ring.call(1, -1), -1);
        due("call(1, least number)", ring.call(1, Integer.MIN_VALUE), -1);
        due("call(1, 63), all are made", ring.call(1, 63), -1);
        due("call(1, 64), a seventh place", ring.call(1, 64), -1);
        due("call(1, 1), an odd run", ring.call(1, 1), -1);
        due("call(1, 18), a gap of 1 and 2", ring.call(1, 18), -1);
        due("no state more", ring.count(15), 1);
        due("call(1, 3)", ring.call(1, 3), 9);
        due("call(2, 0)", ring.call(2, 0), 15);
        due("the bob", ring.count(12), 3);
        due("the single", ring.count(13), 0);
        due("two states more", ring.count(15), 3);
        due("call(1, 3), the same again", ring.call(1, 3), 3);
        due("a state more also then", ring.count(15), 4);
        ring.bells(5);
        due("call(1, 0) with 5 bells", ring.call(1, 0), -1);
        due("call(2, 4) with 5 bells", ring.call(2, 4), 7);
        due("call(2, 2) with 5 bells", ring.call(2, 2), -1);
    }

    private static void touch() {
        CalledTouches ring = new CalledTouches();
        ring.add(0);
        due("touch of an empty pad", ring.touch(), -2);
        write(ring, "pbsx");
        due("touch of a wrong pad", ring.touch(), -2);
        due("the pad stays", ring.count(14), 4);
        due("the touch stays", ring.count(2), 1);
        due("no state more", ring.count(15), 1);
        write(ring, "pbs");
        due("touch", ring.touch(), 3);
        due("the pad is empty", ring.count(14), 0);
        due("a plain lead", ring.change(0, 11), 3);
        due("a bob", ring.change(1, 11), 9);
        due("a single", ring.change(2, 11), 15);
        due("a state more", ring.count(15), 2);
        write(ring, "ppppppppppppppps");
        due("touch of 16", ring.touch(), 16);
        write(ring, "ppppppppppppppppp");
        due("touch of 17", ring.touch(), -2);
    }

    private static void addAndCut() {
        CalledTouches ring = of(4);
        due("add(-1)", ring.add(-1), -1);
        due("add(3)", ring.add(3), -1);
        for (int leads = 1; leads <= 16; leads++) {
            due("add " + leads, ring.add(leads % 3), leads);
        }
        due("add to 16", ring.add(0), -3);
        due("add(3) to 16", ring.add(3), -1);
        due("states", ring.count(15), 4);
        due("cut(-1)", ring.cut(-1), -1);
        due("cut(17)", ring.cut(17), -1);
        due("cut(16)", ring.cut(16), 16);
        due("cut(2)", ring.cut(2), 16);
        due("leads", ring.count(2), 2);
        due("the first is a bob", ring.change(0, 7), 9);
        due("the second is a single", ring.change(1, 7), 12);
        due("undo", ring.undo(), 3);
        due("leads are back", ring.count(2), 16);
        due("the last is a bob", ring.change(15, 7), 9);
        due("cut(0)", ring.cut(0), 16);
        due("cut(1) of none", ring.cut(1), -1);
        due("cut(0) of none", ring.cut(0), 0);
    }

    private static void appendAndClear() {
        CalledTouches ring = new CalledTouches();
        due("append(32)", ring.append(32), -1);
        due("append(127)", ring.append(127), -1);
        due("append(-1)", ring.append(-1), -1);
        due("append(33)", ring.append(33), 1);
        due("append(126)", ring.append(126), 2);
        for (int length = 3; length <= 80; length++) {
            due("append " + length, ring.append('p'), length);
        }
        due("append to 80", ring.append('p'), -3);
        due("append(32) to 80", ring.append(32), -1);
        due("length", ring.count(14), 80);
        due("clear", ring.clear(), 80);
        due("clear again", ring.clear(), 0);
        due("length", ring.count(14), 0);
        due("no states", ring.count(15), 0);
        due("append", ring.append('p'), 1);
    }

    private static void dueFault(int bells, String text, int way, int due) {
        CalledTouches ring = of(bells);
        write(ring, text);
        due("fault(" + way + ") of " + text + " with " + bells + " bells", ring.fault(way), due);
        due("length after fault", ring.count(14), text.length());
        due("states after fault", ring.count(15), 1);
    }

    private static void faultOfMethod() {
        dueFault(6, "x.16", -1, -1);
        dueFault(6, "x.16", 2, -1);
        dueFault(6, "", 0, 0);
        dueFault(6, ".", 0, 0);
        dueFault(6, "x", 0, -4);
        dueFault(6, "x.", 0, 2);
        dueFault(6, "x..x", 0, 2);
        dueFault(6, "xx", 0, 1);
        dueFault(6, "x1", 0, 1);
        dueFault(6, "X", 0, 0);
        dueFault(6, "12x", 0, 2);
        dueFault(6, "x.16.", 0, 5);
        dueFault(7, "x", 0, 0);
        dueFault(7, "7.x", 0, 2);
        String nineteen = "x.x.x.x.x.x.x.x.x.x.x.x.x.x.x.x.x.x.x.";
        dueFault(6, nineteen + "16", 0, -4);
        dueFault(6, nineteen + "1", 0, 39);
        dueFault(6, nineteen, 0, 38);
        dueFault(6, nineteen + "x.", 0, 39);
        dueFault(6, nineteen + "x.x", 0, 39);
        String eighty = "1234.1234.1234.1234.1234.1234.1234.1234.1234.1234.1234.1234.1234.1234.1234.1234.";
        dueFault(6, eighty, 0, 80);
        dueFault(6, eighty.substring(0, 79), 0, -4);
    }

    private static void faultOfChange() {
        dueFault(6, "1", 0, 1);
        dueFault(6, "1.x", 0, 1);
        dueFault(6, "2", 0, 0);
        dueFault(6, "13", 0, 1);
        dueFault(6, "14", 0, -4);
        dueFault(6, "145", 0, 3);
        dueFault(6, "1456", 0, -4);
        dueFault(6, "146", 0, 2);
        dueFault(6, "11", 0, 1);
        dueFault(6, "41", 0, 0);
        dueFault(6, "31", 0, 1);
        dueFault(6, "12345", 0, 4);
        dueFault(6, "1234567", 0, 4);
        dueFault(6, "127", 0, 2);
        dueFault(6, "120", 0, 2);
        dueFault(4, "123", 0, 2);
        dueFault(4, "5", 0, 0);
        dueFault(5, "123", 0, -4);
        dueFault(5, "1234", 0, 3);
        dueFault(7, "12345", 0, -4);
        dueFault(7, "123456", 0, 5);
        dueFault(7, "3", 0, -4);
        dueFault(7, "4", 0, 0);
        dueFault(7, "34", 0, 2);
        dueFault(7, "347", 0, -4);
    }

    private static void faultOfTouch() {
        dueFault(6, "", 1, 0);
        dueFault(6, "p", 1, -4);
        dueFault(6, "bs", 1, -4);
        dueFault(6, "P", 1, 0);
        dueFault(6, "pb.s", 1, 2);
        dueFault(6, "pbspbspbspbspbsp", 1, -4);
        dueFault(6, "pbspbspbspbspbspb", 1, 16);
        dueFault(6, "pbspbspbspbspbspx", 1, 16);
        dueFault(6, "pbs\"", 1, 3);
    }

    private static void bell() {
        CalledTouches ring = ringing(5, "5.1.123", "pb");
        String[] rows = {"12345", "21435", "24153", "24135", "42315", "43251", "42351"};
        for (int row = 0; row < rows.length; row++) {
            dueRow(ring, row, rows[row]);
        }
        due("bell(-1, 1)", ring.bell(-1, 1), -1);
        due("bell(7, 1)", ring.bell(7, 1), -1);
        due("bell(0, 0)", ring.bell(0, 0), -1);
        due("bell(0, 6)", ring.bell(0, 6), -1);
        due("bell(1, 1) without leads", of(5).bell(1, 1), -1);
        due("bell(0, 5) without leads", of(5).bell(0, 5), 5);
    }

    private static void change() {
        CalledTouches ring = ringing(4, "x.14.12", "pbs");
        int[] lasts = {3, 9, 12};
        for (int lead = 0; lead < 3; lead++) {
            due("change(" + lead + ", 0)", ring.change(lead, 0), 0);
            due("change(" + lead + ", 1)", ring.change(lead, 1), 9);
            due("change(" + lead + ", 2)", ring.change(lead, 2), lasts[lead]);
            due("change(" + lead + ", 3)", ring.change(lead, 3), -4);
        }
        due("change(-1, 2)", ring.change(-1, 2), 3);
        due("change(-1, 3)", ring.change(-1, 3), -4);
        due("change(-1, 20)", ring.change(-1, 20), -4);
        due("change(-1, greatest)", ring.change(-1, Integer.MAX_VALUE), -4);
        due("change(-2, 0)", ring.change(-2, 0), -1);
        due("change(3, 0)", ring.change(3, 0), -1);
        due("change(3, 9)", ring.change(3, 9), -1);
        due("change(0, -1)", ring.change(0, -1), -1);
    }

    private static void dueNumbers(CalledTouches ring, int row, int... due) {
        for (int what = 0; what < due.length; what++) {
            due("row(" + row + ", " + what + ")", ring.row(row, what), due[what]);
        }
    }

    private static void row() {
        CalledTouches ring = ringing(4, "x.14", "ppppp");
        // with all three leads the same, only the rows at the ends of leads lie on a way home
        ring.call(2, 9);
        dueNumbers(ring, 0, 0, 0, 1, 4, 0, 0);
        dueNumbers(ring, 1, 0, 0, 0, 0, 1, -4);
        dueNumbers(ring, 2, 1, 1, 0, 0, 2, 3);
        dueNumbers(ring, 3, 1, 1, 0, 2, 3, -4);
        dueNumbers(ring, 4, 0, 0, 0, 0, 4, 2);
        dueNumbers(ring, 8, 0, 0, 1, 4, 0, 0);
        dueNumbers(ring, 10, 1, 1, 0, 0, 2, 3);
        due("row(-1, 0)", ring.row(-1, 0), -1);
        due("row(11, 0)", ring.row(11, 0), -1);
        due("row(0, -1)", ring.row(0, -1), -1);
        due("row(0, 6)", ring.row(0, 6), -1);
        CalledTouches seven = ringing(7, "3.1.7", "ps");
        dueRow(seven, 1, "2135476");
        dueNumbers(seven, 1, 1, 1, 0, 1, 1);
        dueRow(seven, 2, "2314567");
        dueNumbers(seven, 2, 0, 0, 1, 4, 2);
    }

    private static void path() {
        CalledTouches ring = ringing(4, "12.12.12.12.x.34", "p");
        dueRow(ring, 6, "1243");
        int[][] due = {{0, -4, 5, 4, 1}, {0, -4, 1, 4, 2}, {3, 0, 0, 1, 4}, {3, 0, 0, 1, 3}};
        for (int bell = 1; bell <= 4; bell++) {
            for (int what = 0; what <= 4; what++) {
                due("path(" + bell + ", " + what + ")", ring.path(bell, what), due[bell - 1][what]);
            }
        }
        due("path(0, 0)", ring.path(0, 0), -1);
        due("path(5, 0)", ring.path(5, 0), -1);
        due("path(1, -1)", ring.path(1, -1), -1);
        due("path(1, 5)", ring.path(1, 5), -1);
        CalledTouches none = of(5);
        due("dodges without leads", none.path(2, 0), 0);
        due("first dodge without leads", none.path(2, 1), -4);
        due("leads without leads", none.path(1, 2), 0);
        due("stays without leads", none.path(1, 3), 0);
        due("place without leads", none.path(2, 4), 2);
        CalledTouches late = ringing(4, "34.x.12.12", "p");
        due("dodges", late.path(3, 0), 1);
        due("first dodge", late.path(3, 1), 1);
        CalledTouches three = ringing(4, "12.12.12", "p");
        due("a dodge at the last row less 3", three.path(4, 0), 1);
        CalledTouches two = ringing(4, "12.12", "p");
        due("too few rows to dodge", two.path(4, 0), 0);
    }

    private static void blows() {
        CalledTouches ring = ringing(4, "x.14", "p");
        due("blows(1, 1)", ring.blows(1, 1), 0);
        due("blows(1, 2)", ring.blows(1, 2), 1);
        due("blows(1, 3)", ring.blows(1, 3), 1);
        due("blows(2, 1)", ring.blows(2, 1), 2);
        due("blows(0, 1)", ring.blows(0, 1), -1);
        due("blows(5, 1)", ring.blows(5, 1), -1);
        due("blows(1, 0)", ring.blows(1, 0), -1);
        due("blows(1, 5)", ring.blows(1, 5), -1);
        due("blows without leads", of(4).blows(1, 1), 0);
    }

    private static void dueCounts(CalledTouches ring, int... due) {
        for (int what = 0; what < due.length; what++) {
            due("count(" + what + ")", ring.count(what), due[what]);
        }
    }

    private static void count() {
        CalledTouches ring = of(4);
        due("count(-1)", ring.count(-1), -1);
        due("count(16)", ring.count(16), -1);
        dueCounts(ring, 4, 8, 0, 0, -4, 1, -4, 0, 0, 0, 0, 3, 9, 12, 0, 1);
        write(ring, "x.14");
        ring.method();
        dueCounts(ring, 4, 2, 0, 0, -4, 1, -4, 0, 0, 0, 0, 4, 9, 12, 0, 2);
        write(ring, "ppppps");
        ring.touch();
        ring.append('p');
        dueCounts(ring, 4, 2, 6, 12, 8, 0, 9, 9, 2, 1, 1, 4, 9, 12, 1, 3);
        CalledTouches calls = ringing(4, "x.14", "bpsb");
        due("called leads", calls.count(10), 3);
        calls.cut(2);
        due("called leads that are left", calls.count(10), 1);
        CalledTouches fresh = new CalledTouches();
        due("plain leads of 6 bells", fresh.count(11), 5);
        CalledTouches neighbours = ringing(4, "x.14", "pp");
        neighbours.call(1, 0);
        due("leads without a row in common", neighbours.count(8), 0);
        neighbours.add(1);
        due("a third lead that shares a row with the second", neighbours.count(8), 1);
        CalledTouches once = ringing(4, "x.14", "pppp");
        dueCounts(once, 4, 2, 4, 8, 8, 1, -4, 8, 0, 1, 0, 4);
        CalledTouches within = ringing(4, "x.x", "ppp");
        dueCounts(within, 4, 2, 3, 6, 2, 0, 3, 2, 3, 3, 0, 1);
    }

    private static void music() {
        due("music without leads", new CalledTouches().music(), 0.0);
        CalledTouches ring = ringing(4, "x.12.x", "pp");
        due("wells", ring.count(9), 3);
        due("music", ring.music(), 0.5);
        ring.cut(1);
        due("music of one lead", ring.music(), 1.0 / 3.0);
        CalledTouches all = ringing(4, "34.34", "p");
        due("music of rows that all end rising", all.music(), 1.0);
        CalledTouches full = ringing(6, "3456", "p");
        due("music of one row", full.music(), 1.0);
    }

    private static void home() {
        CalledTouches ring = ringing(4, "x.14", "ppppp");
        due("home(-1)", ring.home(-1), -1);
        due("home(2)", ring.home(2), -1);
        for (int way = 0; way <= 1; way++) {
            due("home(" + way + ") plain", ring.home(way), 3);
        }
        ring.cut(1);
        ring.call(1, 0);
        for (int way = 0; way <= 1; way++) {
            // a lead with the bob changes nothing, one with the single swaps the bells at 3 and 4
            due("home(" + way + ") after one lead", ring.home(way), 3);
        }
        ring.cut(0);
        for (int way = 0; way <= 1; way++) {
            due("home(" + way + ") from rounds", ring.home(way), 0);
        }
        CalledTouches seven = of(7);
        seven.add(0);
        seven.add(1);
        due("home(0) of 7", seven.home(0), 6);
        due("home(1) of 7", seven.home(1), 6);
        seven.call(2, 67);
        due("home(0) after another single", seven.home(0), seven.home(1));
    }

    private static void homeCall() {
        CalledTouches ring = ringing(4, "x.14", "ppp");
        due("homeCall(-1)", ring.homeCall(-1), -1);
        due("homeCall(0)", ring.homeCall(0), 0);
        due("homeCall(1)", ring.homeCall(1), -4);
        due("homeCall(greatest)", ring.homeCall(Integer.MAX_VALUE), -4);
        ring.call(2, 9);
        due("the least of three that lead home", ring.homeCall(0), 0);
        CalledTouches other = ringing(4, "x.12.12", "b");
        // the bob makes 2314 of rounds, a plain lead 2143, the single nothing: two bobs more are needed
        due("home", other.home(0), 2);
        due("homeCall(0)", other.homeCall(0), 1);
        due("homeCall(1)", other.homeCall(1), 1);
        due("homeCall(2)", other.homeCall(2), -4);
        due("nothing is changed", other.count(2), 1);
        other.add(1);
        due("homeCall(0) behind a bob", other.homeCall(0), 1);
        other.add(1);
        due("homeCall(0) at home", other.homeCall(0), -4);
        CalledTouches single = ringing(4, "x", "s");
        single.call(2, 3);
        single.call(1, 12);
        due("a single alone leads home", single.homeCall(0), 2);
        due("one lead", single.home(1), 1);
    }

    private static void ifCalled() {
        CalledTouches ring = ringing(4, "x.14", "pppp");
        due("ifCalled(0, 0, 0)", ring.ifCalled(0, 0, 0), 1);
        due("ifCalled(0, 0, 1)", ring.ifCalled(0, 0, 1), 8);
        due("ifCalled(3, 0, 2)", ring.ifCalled(3, 0, 2), 1);
        due("ifCalled(3, 2, 1)", ring.ifCalled(3, 2, 1), -4);
        due("ifCalled(3, 2, 2)", ring.ifCalled(3, 2, 2), 1);
        due("ifCalled(2, 2, 2)", ring.ifCalled(2, 2, 2), 0);
        due("ifCalled(3, 1, 1)", ring.ifCalled(3, 1, 1), 8);
        due("nothing is changed", ring.count(10), 0);
        due("no state more", ring.count(15), 3);
        ring.call(2, 0);
        due("ifCalled(1, 2, 0)", ring.ifCalled(1, 2, 0), 0);
        due("ifCalled(0, 2, 1)", ring.ifCalled(0, 2, 1), 2);
        due("ifCalled(-1, 0, 0)", ring.ifCalled(-1, 0, 0), -1);
        due("ifCalled(4, 0, 0)", ring.ifCalled(4, 0, 0), -1);
        due("ifCalled(0, -1, 0)", ring.ifCalled(0, -1, 0), -1);
        due("ifCalled(0, 3, 0)", ring.ifCalled(0, 3, 0), -1);
        due("ifCalled(0, 0, -1)", ring.ifCalled(0, 0, -1), -1);
        due("ifCalled(0, 0, 3)", ring.ifCalled(0, 0, 3), -1);
        due("ifCalled without leads", of(4).ifCalled(0, 0, 0), -1);
    }

    private static void best() {
        due("best of none, all the same", ringing(4, "x.14", "p").best(), 0);
        CalledTouches round = ringing(4, "x.14", "pppp");
        due("only a single brings another row", round.best(), 2);
        round.call(2, 9);
        due("any lead repeats as many", round.best(), 0);
        CalledTouches single = ringing(4, "x.x", "p");
        due("x.x plain comes to rounds again, with a bob not", single.best(), 1);
        single.call(1, 0);
        due("a single alone brings another row", single.best(), 2);
        CalledTouches full = ringing(4, "x", "pppppppppppppppp");
        due("best with 16", full.best(), 1);
        CalledTouches longest = ringing(4, "x.x.x.x.x.x.x.x.x.x.x.x.x.x.x.x.x.x.x.x", "pppppppppppppppp");
        due("rows of the longest touch", longest.count(3), 320);
        due("the very last change tells", longest.best(), 1);
        due("nothing is changed", full.count(2), 16);
        due("no state more", full.count(15), 3);
    }

    private static void undo() {
        CalledTouches ring = new CalledTouches();
        for (int i = 0; i < 6; i++) {
            ring.add(i % 3);
        }
        due("states", ring.count(15), 4);
        ring.append('p');
        ring.save();
        for (int states = 3; states >= 0; states--) {
            due("undo", ring.undo(), states);
            due("leads", ring.count(2), 2 + states);
        }
        due("undo of none", ring.undo(), -2);
        due("the pad stays", ring.count(14), 1);
        due("the snapshot stays", ring.restore(), 6);
        due("the last lead", ring.change(5, 11), 15);
        due("undo of restore", ring.undo(), 0);
        due("leads", ring.count(2), 2);
        ring.append('b');
        ring.touch();
        ring.undo();
        due("undo of touch leaves the pad empty", ring.count(14), 0);
        due("the leads of before", ring.count(2), 2);
        due("the second is a bob", ring.change(1, 11), 9);
    }

    private static void saveAndRestore() {
        CalledTouches ring = of(5);
        due("restore without a snapshot", ring.restore(), -2);
        due("no state more", ring.count(15), 1);
        ring.add(2);
        ring.call(1, 4);
        ring.append('!');
        due("save", ring.save(), 1);
        due("save is no change", ring.count(15), 3);
        ring.bells(7);
        ring.append('?');
        due("restore", ring.restore(), 1);
        due("a state more, at most 4", ring.count(15), 4);
        due("bells", ring.count(0), 5);
        due("bob", ring.count(12), 4);
        due("the pad stays", ring.count(14), 2);
        due("changes", ring.count(1), 10);
        due("the single of the lead", ring.change(0, 9), 7);
        ring.cut(0);
        due("restore again", ring.restore(), 1);
        ring.cut(0);
        due("save in its place", ring.save(), 0);
        ring.add(0);
        due("restore the other", ring.restore(), 0);
        due("undo", ring.undo(), 3);
        due("the lead is back", ring.count(2), 1);
    }
}
