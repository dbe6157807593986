import java.util.function.ToIntFunction;

/** Sentences that name a boundary: "Changes and errors" in "Terms", and the promises 22 to 24. */
public final class HistoryEdgesTest {
    private HistoryEdgesTest() {
    }

    public static void main(String[] args) {
        constants();
        changesOfTheState();
        historyOfFour();
        whatIsRecorded();
        undo();
        save();
        restore();
        Sentences.end("HistoryEdgesTest");
    }

    private static void holds(String sentence, Runnable test) {
        Sentences.holds(sentence, test);
    }

    private static void due(String call, double got, double due) {
        Sentences.due(call, got, due);
    }

    private static void dueTouch(CalledTouches ring, String due) {
        Sentences.same("the touch", Sentences.touch(ring), due);
    }

    private static CalledTouches withLeads(int leads) {
        CalledTouches ring = new CalledTouches();
        for (int i = 0; i < leads; i++) {
            ring.add(i % 3);
        }
        return ring;
    }

    private static void constants() {
        holds("INVALID_ARGUMENT = -1, NOT_POSSIBLE = -2, LIMIT_REACHED = -3, NOT_FOUND = -4", () -> {
            due("INVALID_ARGUMENT", CalledTouches.INVALID_ARGUMENT, -1);
            due("NOT_POSSIBLE", CalledTouches.NOT_POSSIBLE, -2);
            due("LIMIT_REACHED", CalledTouches.LIMIT_REACHED, -3);
            due("NOT_FOUND", CalledTouches.NOT_FOUND, -4);
        });
    }

    private static void dueStatesMore(String call, String pad, ToIntFunction<CalledTouches> change, int more) {
        CalledTouches ring = new CalledTouches();
        ring.add(1);
        ring.save();
        Sentences.write(ring, pad);
        due(call + " is no error", change.applyAsInt(ring) >= 0 ? 1 : 0, 1);
        due("states behind " + call, ring.count(15), 1 + more);
        if (more == 1) {
            due("undo of " + call, ring.undo(), 1);
        }
        dueTouch(ring, "b");
        Sentences.dueMethod(ring, "x.16.x.16.x.16.x.16.x.16.x.12");
        due("the bob", ring.count(12), 9);
        due("the single", ring.count(13), 15);
    }

    private static void changesOfTheState() {
        holds("The changes of the state are the calls of bells, method, call, touch, add, cut and restore", () -> {
            dueStatesMore("bells(4)", "", ring -> ring.bells(4), 1);
            dueStatesMore("method()", "x.14", CalledTouches::method, 1);
            dueStatesMore("call(1, 0)", "", ring -> ring.call(1, 0), 1);
            dueStatesMore("call(2, 0)", "", ring -> ring.call(2, 0), 1);
            dueStatesMore("touch()", "pbs", CalledTouches::touch, 1);
            dueStatesMore("add(2)", "", ring -> ring.add(2), 1);
            dueStatesMore("cut(0)", "", ring -> ring.cut(0), 1);
            dueStatesMore("restore()", "", CalledTouches::restore, 1);
        });
        holds("(also if nothing is different then)", () -> {
            dueStatesMore("bells(6)", "", ring -> ring.bells(6), 1);
            dueStatesMore("method()", "x.16.x.16.x.16.x.16.x.16.x.12", CalledTouches::method, 1);
            dueStatesMore("call(1, 9)", "", ring -> ring.call(1, 9), 1);
            dueStatesMore("call(2, 15)", "", ring -> ring.call(2, 15), 1);
            dueStatesMore("touch()", "b", CalledTouches::touch, 1);
            dueStatesMore("cut(1)", "", ring -> ring.cut(1), 1);
            dueStatesMore("restore()", "", CalledTouches::restore, 1);
            CalledTouches ring = new CalledTouches();
            due("cut(0) of none", ring.cut(0), 0);
            due("bells(6)", ring.bells(6), 6);
            due("states", ring.count(15), 2);
        });
        holds("(no other call is a change of the state)", () -> {
            dueStatesMore("append", "", ring -> ring.append('x'), 0);
            dueStatesMore("clear()", "x", CalledTouches::clear, 0);
            dueStatesMore("fault(0)", "y", ring -> ring.fault(0), 0);
            dueStatesMore("fault(1)", "y", ring -> ring.fault(1), 0);
            dueStatesMore("bell(0, 1)", "", ring -> ring.bell(0, 1), 0);
            dueStatesMore("change(0, 0)", "", ring -> ring.change(0, 0), 0);
            for (int number = 0; number <= 5; number++) {
                int what = number;
                dueStatesMore("row(0, what)", "", ring -> ring.row(0, what), 0);
            }
            dueStatesMore("path(1, 2)", "", ring -> ring.path(1, 2), 0);
            dueStatesMore("blows(1, 1)", "", ring -> ring.blows(1, 1), 0);
            dueStatesMore("count(15)", "", ring -> ring.count(15), 0);
            dueStatesMore("music()", "", ring -> (int) ring.music(), 0);
            dueStatesMore("home(0)", "", ring -> ring.home(0), 0);
            dueStatesMore("home(1)", "", ring -> ring.home(1), 0);
            dueStatesMore("homeCall(0)", "", ring -> ring.homeCall(0), 0);
            dueStatesMore("ifCalled(0, 0, 0)", "", ring -> ring.ifCalled(0, 0, 0), 0);
            dueStatesMore("best()", "", CalledTouches::best, 0);
            dueStatesMore("save()", "", CalledTouches::save, 0);
        });
    }

    private static void historyOfFour() {
        holds("A history of at most 4 states is kept", () -> {
            int[] dues = {0, 1, 2, 3, 4, 4, 4, 4, 4, 4, 4, 4, 4};
            CalledTouches ring = new CalledTouches();
            for (int leads = 0; leads <= 12; leads++) {
                due("states behind " + leads + " changes", ring.count(15), dues[leads]);
                ring.add(0);
            }
        });
        holds("if there are 5 states then, the oldest one is dropped", () -> {
            CalledTouches ring = withLeads(5);
            String[] dues = {"pbsp", "pbs", "pb", "p"};
            for (int i = 0; i < 4; i++) {
                due("undo", ring.undo(), 3 - i);
                dueTouch(ring, dues[i]);
            }
            due("undo of the dropped one", ring.undo(), -2);
            dueTouch(ring, "p");
        });
        holds("(4 states) none is dropped", () -> {
            CalledTouches ring = withLeads(4);
            for (int i = 3; i >= 0; i--) {
                due("undo", ring.undo(), i);
                due("leads", ring.count(2), i);
            }
            due("undo of none", ring.undo(), -2);
        });
        holds("(dropped ones) again and again", () -> {
            CalledTouches ring = withLeads(16);
            due("add to 16", ring.add(0), -3);
            for (int i = 3; i >= 0; i--) {
                due("undo", ring.undo(), i);
                due("leads", ring.count(2), 12 + i);
            }
            due("undo of none", ring.undo(), -2);
            dueTouch(ring, "pbspbspbspbs");
        });
        holds("(states) behind an undo new ones are kept in place of those undone", () -> {
            CalledTouches ring = withLeads(6);
            ring.undo();
            ring.undo();
            ring.add(2);
            ring.add(2);
            ring.add(2);
            due("states", ring.count(15), 4);
            String[] dues = {"pbspss", "pbsps", "pbsp", "pbs"};
            for (int i = 0; i < 4; i++) {
                due("undo", ring.undo(), 3 - i);
                dueTouch(ring, dues[i]);
            }
            due("undo of none", ring.undo(), -2);
        });
    }

    private static void whatIsRecorded() {
        holds("each of these records everything before it but the pad and the snapshot", () -> {
            CalledTouches ring = Sentences.ringing(4, "x.14.34", "pbsb");
            ring.call(1, 0);
            ring.call(2, 3);
            String before = everything(ring);
            ring.bells(7);
            due("undo", ring.undo(), 3);
            Sentences.same("everything", everything(ring), before);
            Sentences.write(ring, "12.34.x.14.x");
            ring.method();
            due("undo", ring.undo(), 3);
            Sentences.same("everything", everything(ring), before);
            Sentences.write(ring, "s".repeat(16));
            ring.touch();
            due("undo", ring.undo(), 3);
            Sentences.same("everything", everything(ring), before);
            ring.call(1, 9);
            due("undo", ring.undo(), 3);
            Sentences.same("everything", everything(ring), before);
        });
        holds("(recorded) the longest method and the longest touch", () -> {
            CalledTouches ring = Sentences.ringing(4, "14" + ".x".repeat(19), "pbsb".repeat(4));
            String before = everything(ring);
            ring.bells(5);
            ring.undo();
            Sentences.same("everything", everything(ring), before);
        });
        holds("(recorded) but the pad", () -> {
            CalledTouches ring = new CalledTouches();
            ring.append('p');
            ring.add(1);
            ring.append('b');
            ring.append('s');
            due("undo", ring.undo(), 0);
            due("the pad", ring.count(14), 3);
            due("touch", ring.touch(), 3);
            dueTouch(ring, "pbs");
            due("undo", ring.undo(), 0);
            due("the pad that touch emptied", ring.count(14), 0);
            ring.append('x');
            due("method", ring.method(), 1);
            due("undo", ring.undo(), 0);
            due("the pad that method emptied", ring.count(14), 0);
        });
        holds("(recorded) but the snapshot", () -> {
            CalledTouches ring = new CalledTouches();
            ring.add(0);
            ring.save();
            ring.add(1);
            ring.save();
            ring.undo();
            ring.undo();
            dueTouch(ring, "");
            due("restore", ring.restore(), 2);
            dueTouch(ring, "pb");
            due("states", ring.count(15), 1);
        });
    }

    private static String everything(CalledTouches ring) {
        StringBuilder text = new StringBuilder();
        int changes = ring.count(1);
        for (int i = 0; i < changes; i++) {
            text.append(ring.change(-1, i)).append('.');
        }
        return text.append(ring.count(0)).append(' ').append(ring.count(12)).append(' ').append(ring.count(13)).append(' ')
            .append(Sentences.touch(ring)).toString();
    }

    private static void undo() {
        holds("NOT_POSSIBLE if it has none (undo)", () -> {
            CalledTouches ring = new CalledTouches();
            due("undo of a new object", ring.undo(), -2);
            due("undo again", ring.undo(), -2);
            ring.append('x');
            due("undo behind append", ring.undo(), -2);
            due("the pad", ring.count(14), 1);
            ring.save();
            due("undo behind save", ring.undo(), -2);
            due("add(3)", ring.add(3), -1);
            due("undo behind a refused call", ring.undo(), -2);
        });
        holds("Returns how many states the history has then", () -> {
            CalledTouches ring = withLeads(9);
            for (int states = 3; states >= 0; states--) {
                due("undo", ring.undo(), states);
                due("count(15)", ring.count(15), states);
            }
            due("undo", ring.undo(), -2);
            due("count(15)", ring.count(15), 0);
            ring.add(0);
            due("undo", ring.undo(), 0);
        });
        holds("Undoes the latest change: a refused call is none", () -> {
            CalledTouches ring = withLeads(2);
            ring.bells(8);
            ring.method();
            ring.call(1, 63);
            ring.touch();
            ring.add(-1);
            ring.cut(3);
            ring.restore();
            due("undo", ring.undo(), 1);
            dueTouch(ring, "p");
        });
        holds("(undo) is no change itself: it is not undone", () -> {
            CalledTouches ring = withLeads(3);
            due("undo", ring.undo(), 2);
            due("undo", ring.undo(), 1);
            dueTouch(ring, "p");
        });
    }

    private static void save() {
        holds("Returns how many leads the touch has (save)", () -> {
            CalledTouches ring = new CalledTouches();
            due("none", ring.save(), 0);
            ring.add(2);
            due("one", ring.save(), 1);
            Sentences.write(ring, "p".repeat(16));
            ring.touch();
            due("16", ring.save(), 16);
        });
        holds("in place of the one that was", () -> {
            CalledTouches ring = withLeads(2);
            ring.save();
            ring.add(2);
            ring.save();
            ring.cut(0);
            due("restore", ring.restore(), 3);
            dueTouch(ring, "pbs");
            ring.cut(1);
            ring.save();
            ring.bells(4);
            due("restore", ring.restore(), 1);
            due("bells", ring.count(0), 6);
        });
        holds("a snapshot of everything but the pad and the history", () -> {
            CalledTouches ring = Sentences.ringing(4, "x.14.34", "pbsb");
            ring.call(1, 0);
            ring.call(2, 3);
            String before = everything(ring);
            Sentences.write(ring, "x");
            due("save", ring.save(), 4);
            ring.bells(7);
            ring.append('!');
            ring.undo();
            ring.undo();
            ring.bells(5);
            due("restore", ring.restore(), 4);
            Sentences.same("everything", everything(ring), before);
            due("the pad", ring.count(14), 2);
            due("the history", ring.count(15), 4);
            due("undo of restore", ring.undo(), 3);
            due("bells before it", ring.count(0), 5);
        });
    }

    private static void restore() {
        holds("NOT_POSSIBLE if there is none (restore)", () -> {
            CalledTouches ring = withLeads(2);
            due("restore", ring.restore(), -2);
            due("restore again", ring.restore(), -2);
            dueTouch(ring, "pb");
            due("states", ring.count(15), 2);
            ring.undo();
            ring.bells(4);
            due("restore behind bells", ring.restore(), -2);
            ring.save();
            due("restore behind save", ring.restore(), 0);
        });
        holds("Restores the snapshot, which stays", () -> {
            CalledTouches ring = withLeads(3);
            ring.save();
            for (int i = 0; i < 6; i++) {
                ring.bells(4 + i % 4);
                ring.add(1);
                due("restore", ring.restore(), 3);
                dueTouch(ring, "pbs");
                due("bells", ring.count(0), 6);
                ring.cut(i % 3);
                ring.add(2);
            }
        });
        holds("(restore) what is changed then does not change the snapshot", () -> {
            CalledTouches ring = Sentences.ringing(4, "x.14", "pb");
            ring.save();
            ring.restore();
            ring.call(1, 0);
            ring.call(2, 0);
            Sentences.write(ring, "12");
            ring.method();
            ring.add(2);
            ring.restore();
            Sentences.dueMethod(ring, "x.14");
            due("the bob", ring.count(12), 9);
            due("the single", ring.count(13), 12);
            due("leads", ring.count(2), 2);
        });
        holds("Returns how many leads the touch has then (restore)", () -> {
            CalledTouches ring = new CalledTouches();
            ring.save();
            ring.add(0);
            due("none", ring.restore(), 0);
            Sentences.write(ring, "s".repeat(16));
            ring.touch();
            ring.save();
            ring.cut(0);
            due("16", ring.restore(), 16);
            dueTouch(ring, "s".repeat(16));
        });
        holds("(restore) is a change: with 4 states before it the oldest one is dropped", () -> {
            CalledTouches ring = withLeads(4);
            ring.save();
            due("restore", ring.restore(), 4);
            due("states", ring.count(15), 4);
            int[] leads = {4, 3, 2, 1};
            for (int i = 0; i < 4; i++) {
                due("undo", ring.undo(), 3 - i);
                due("leads", ring.count(2), leads[i]);
            }
            due("undo", ring.undo(), -2);
        });
    }
}
