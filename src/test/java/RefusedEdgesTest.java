import java.util.ArrayList;
import java.util.List;
import java.util.function.Supplier;
import java.util.function.ToIntFunction;

/** A call that returns an error changes nothing, nor does a look: in states at the edges, for each error of each call. */
public final class RefusedEdgesTest {
    private record State(String name, Supplier<CalledTouches> maker) {}

    private record Call(String name, ToIntFunction<CalledTouches> call, int due) {}

    private static final String TWENTY = "x" + ".x".repeat(18) + ".12";
    private static final String FULL_METHOD = "1234.".repeat(11) + "12.".repeat(8) + "x";
    private static final int[] FARS = {Integer.MIN_VALUE, Integer.MIN_VALUE + 1, -65536, -1, 5041, 65536 + 120,
        Integer.MAX_VALUE - 1, Integer.MAX_VALUE};

    private RefusedEdgesTest() {
    }

    public static void main(String[] args) {
        Sentences.holds("A call that returns an error changes nothing (the pad stays, too)", () -> {
            for (State state : states()) {
                for (Call call : refusedEverywhere()) {
                    dueNoChange(state, call);
                }
            }
        });
        refusedAtEdges();
        Sentences.holds("looks; nothing is changed; leads home, what would be; nothing is changed", () -> {
            for (State state : states()) {
                for (Call call : looks()) {
                    dueNoChange(state, new Call(call.name, call.call, call.call.applyAsInt(state.maker.get())));
                }
            }
        });
        Sentences.end("RefusedEdgesTest");
    }

    private static void dueNoChange(State state, Call call) {
        CalledTouches ring = state.maker.get();
        String what = call.name + ", " + state.name;
        Sentences.due(what, call.call.applyAsInt(ring), call.due);
        Sentences.same("all behind " + what, all(ring), all(state.maker.get()));
        CalledTouches again = state.maker.get();
        call.call.applyAsInt(again);
        Sentences.same("the pad behind " + what, padRead(again), padRead(state.maker.get()));
    }

    /** What can be seen now, in each state of the history, and in the snapshot. */
    private static String all(CalledTouches ring) {
        StringBuilder text = new StringBuilder(Sentences.look(ring));
        for (int i = 0; i < 5 && ring.count(15) > 0; i++) {
            text.append("\nundo ").append(ring.undo()).append(": ").append(Sentences.look(ring));
        }
        return text.append("\nrestore ").append(ring.restore()).append(": ").append(Sentences.look(ring)).toString();
    }

    /** What becomes of the characters of the pad. */
    private static String padRead(CalledTouches ring) {
        StringBuilder text = new StringBuilder();
        text.append(ring.append('x')).append(' ').append(ring.fault(0)).append(' ').append(ring.fault(1));
        text.append("\nmethod ").append(ring.method()).append(": ").append(Sentences.look(ring));
        return text.append("\ntouch ").append(ring.touch()).append(": ").append(Sentences.look(ring)).toString();
    }

    private static CalledTouches full(String pad) {
        CalledTouches ring = Sentences.ringing(6, TWENTY, "pbspbspbspbspbsp");
        ring.save();
        ring.call(1, 48);
        ring.call(2, 12);
        ring.cut(16);
        Sentences.write(ring, pad);
        return ring;
    }

    private static List<State> states() {
        List<State> states = new ArrayList<>();
        states.add(new State("a new object", CalledTouches::new));
        states.add(new State("with a method on the pad", () -> padded("x.14.")));
        states.add(new State("with a touch on the pad", () -> padded("pbspbspbspbspbsp")));
        states.add(new State("with a full pad of a method", () -> padded(FULL_METHOD)));
        states.add(new State("with all full and a snapshot", () -> full("~".repeat(80))));
        states.add(new State("with 7 bells, one change and one lead", () -> Sentences.ringing(7, "3", "s")));
        states.add(new State("with 4 bells and a snapshot of none", () -> {
            CalledTouches ring = new CalledTouches();
            ring.save();
            ring.bells(4);
            ring.add(1);
            return ring;
        }));
        return states;
    }

    private static CalledTouches padded(String pad) {
        CalledTouches ring = new CalledTouches();
        ring.add(2);
        Sentences.write(ring, pad);
        return ring;
    }

    private static void invalid(List<Call> calls, String name, ToIntFunction<CalledTouches> call) {
        calls.add(new Call(name, call, -1));
    }

    private static List<Call> refusedEverywhere() {
        List<Call> calls = new ArrayList<>();
        invalid(calls, "bells(3)", ring -> ring.bells(3));
        invalid(calls, "bells(8)", ring -> ring.bells(8));
        invalid(calls, "call(0, 3)", ring -> ring.call(0, 3));
        invalid(calls, "call(3, 3)", ring -> ring.call(3, 3));
        invalid(calls, "call(1, 2), place 2 alone", ring -> ring.call(1, 2));
        invalid(calls, "call(2, 127)", ring -> ring.call(2, 127));
        invalid(calls, "add(-1)", ring -> ring.add(-1));
        invalid(calls, "add(3)", ring -> ring.add(3));
        invalid(calls, "cut(-1)", ring -> ring.cut(-1));
        invalid(calls, "cut(t + 1)", ring -> ring.cut(ring.count(2) + 1));
        invalid(calls, "append(32)", ring -> ring.append(32));
        invalid(calls, "append(127)", ring -> ring.append(127));
        invalid(calls, "fault(-1)", ring -> ring.fault(-1));
        invalid(calls, "fault(2)", ring -> ring.fault(2));
        invalid(calls, "bell(-1, 1)", ring -> ring.bell(-1, 1));
        invalid(calls, "bell(last + 1, 1)", ring -> ring.bell(ring.count(3) + 1, 1));
        invalid(calls, "bell(0, 0)", ring -> ring.bell(0, 0));
        invalid(calls, "bell(0, n + 1)", ring -> ring.bell(0, ring.count(0) + 1));
        invalid(calls, "change(-2, 0)", ring -> ring.change(-2, 0));
        invalid(calls, "change(t, 0)", ring -> ring.change(ring.count(2), 0));
        invalid(calls, "change(-1, -1)", ring -> ring.change(-1, -1));
        calls.add(new Call("change(-1, c)", ring -> ring.change(-1, ring.count(1)), -4));
        invalid(calls, "row(-1, 0)", ring -> ring.row(-1, 0));
        invalid(calls, "row(last + 1, 0)", ring -> ring.row(ring.count(3) + 1, 0));
        invalid(calls, "row(0, -1)", ring -> ring.row(0, -1));
        invalid(calls, "row(0, 6)", ring -> ring.row(0, 6));
        invalid(calls, "path(0, 0)", ring -> ring.path(0, 0));
        invalid(calls, "path(n + 1, 0)", ring -> ring.path(ring.count(0) + 1, 0));
        invalid(calls, "path(1, -1)", ring -> ring.path(1, -1));
        invalid(calls, "path(1, 5)", ring -> ring.path(1, 5));
        invalid(calls, "blows(0, 1)", ring -> ring.blows(0, 1));
        invalid(calls, "blows(n + 1, 1)", ring -> ring.blows(ring.count(0) + 1, 1));
        invalid(calls, "blows(1, 0)", ring -> ring.blows(1, 0));
        invalid(calls, "blows(1, n + 1)", ring -> ring.blows(1, ring.count(0) + 1));
        invalid(calls, "count(-1)", ring -> ring.count(-1));
        invalid(calls, "count(16)", ring -> ring.count(16));
        invalid(calls, "home(-1)", ring -> ring.home(-1));
        invalid(calls, "home(2)", ring -> ring.home(2));
        invalid(calls, "homeCall(-1)", ring -> ring.homeCall(-1));
        calls.add(new Call("homeCall(5040)", ring -> ring.homeCall(5040), -4));
        invalid(calls, "ifCalled(-1, 0, 0)", ring -> ring.ifCalled(-1, 0, 0));
        invalid(calls, "ifCalled(t, 0, 0)", ring -> ring.ifCalled(ring.count(2), 0, 0));
        invalid(calls, "ifCalled(0, -1, 0)", ring -> ring.ifCalled(0, -1, 0));
        invalid(calls, "ifCalled(0, 3, 0)", ring -> ring.ifCalled(0, 3, 0));
        invalid(calls, "ifCalled(0, 0, -1)", ring -> ring.ifCalled(0, 0, -1));
        invalid(calls, "ifCalled(0, 0, 3)", ring -> ring.ifCalled(0, 0, 3));
        for (int far : FARS) {
            addFar(calls, far, " with " + far);
        }
        return calls;
    }

    /** Each number here is outside of every range but those of change numbers and indices of calls home. */
    private static void addFar(List<Call> calls, int far, String with) {
        invalid(calls, "bells" + with, ring -> ring.bells(far));
        invalid(calls, "call(kind, 3)" + with, ring -> ring.call(far, 3));
        invalid(calls, "call(1, places)" + with, ring -> ring.call(1, far));
        invalid(calls, "call(kind, places)" + with, ring -> ring.call(far, far));
        invalid(calls, "add" + with, ring -> ring.add(far));
        invalid(calls, "cut" + with, ring -> ring.cut(far));
        invalid(calls, "append" + with, ring -> ring.append(far));
        invalid(calls, "fault" + with, ring -> ring.fault(far));
        invalid(calls, "bell(row, 1)" + with, ring -> ring.bell(far, 1));
        invalid(calls, "bell(0, place)" + with, ring -> ring.bell(0, far));
        if (far != -1) {
            invalid(calls, "change(lead, 0)" + with, ring -> ring.change(far, 0));
        }
        calls.add(new Call("change(-1, change)" + with, ring -> ring.change(-1, far), far < 0 ? -1 : -4));
        invalid(calls, "row(row, 0)" + with, ring -> ring.row(far, 0));
        invalid(calls, "row(row, 5)" + with, ring -> ring.row(far, 5));
        invalid(calls, "row(0, what)" + with, ring -> ring.row(0, far));
        invalid(calls, "path(bell, 1)" + with, ring -> ring.path(far, 1));
        invalid(calls, "path(1, what)" + with, ring -> ring.path(1, far));
        invalid(calls, "blows(bell, 1)" + with, ring -> ring.blows(far, 1));
        invalid(calls, "blows(1, place)" + with, ring -> ring.blows(1, far));
        invalid(calls, "count" + with, ring -> ring.count(far));
        invalid(calls, "home" + with, ring -> ring.home(far));
        calls.add(new Call("homeCall" + with, ring -> ring.homeCall(far), far < 0 ? -1 : -4));
        invalid(calls, "ifCalled(lead, 0, 0)" + with, ring -> ring.ifCalled(far, 0, 0));
        invalid(calls, "ifCalled(0, kind, 0)" + with, ring -> ring.ifCalled(0, far, 0));
        invalid(calls, "ifCalled(0, 0, what)" + with, ring -> ring.ifCalled(0, 0, far));
    }

    private static void refusedAtEdges() {
        State fresh = new State("a new object", CalledTouches::new);
        State full = new State("all full", () -> full("~".repeat(80)));
        State short1 = new State("an incomplete pad", () -> padded("x.1"));
        State wrong = new State("a wrong pad", () -> padded("pbx"));
        Sentences.holds("NOT_POSSIBLE: nothing is changed, the pad stays", () -> {
            for (State state : List.of(fresh, full, short1, wrong)) {
                dueNoChange(state, new Call("method()", CalledTouches::method, -2));
                dueNoChange(state, new Call("touch()", CalledTouches::touch, -2));
            }
            dueNoChange(fresh, new Call("undo()", CalledTouches::undo, -2));
            for (State state : List.of(fresh, short1, wrong)) {
                dueNoChange(state, new Call("restore()", CalledTouches::restore, -2));
            }
        });
        Sentences.holds("LIMIT_REACHED: nothing is changed, the pad stays", () -> {
            for (int number = 0; number <= 2; number++) {
                int kind = number;
                dueNoChange(full, new Call("add to 16", ring -> ring.add(kind), -3));
            }
            dueNoChange(full, new Call("append to 80", ring -> ring.append('p'), -3));
            State method = new State("a full pad of a method", () -> padded(FULL_METHOD));
            dueNoChange(method, new Call("append to 80", ring -> ring.append('.'), -3));
        });
        Sentences.holds("NOT_FOUND: nothing is changed", () -> {
            for (State state : List.of(fresh, full, short1, wrong)) {
                dueNoChange(state, new Call("homeCall(greatest)", ring -> ring.homeCall(Integer.MAX_VALUE), -4));
                dueNoChange(state, new Call("change(-1, 20)", ring -> ring.change(-1, 20), -4));
            }
            dueNoChange(fresh, new Call("homeCall(0)", ring -> ring.homeCall(0), -4));
            dueNoChange(fresh, new Call("count(4)", ring -> ring.count(4), -4));
            dueNoChange(fresh, new Call("count(6)", ring -> ring.count(6), -4));
            dueNoChange(fresh, new Call("path(1, 1)", ring -> ring.path(1, 1), -4));
            dueNoChange(short1, new Call("ifCalled(0, 1, 1)", ring -> ring.ifCalled(0, 1, 1), -4));
            State methodPad = new State("a method on the pad", () -> padded("x.14"));
            dueNoChange(methodPad, new Call("fault(0)", ring -> ring.fault(0), -4));
            State touchPad = new State("a touch on the pad", () -> padded("pbs"));
            dueNoChange(touchPad, new Call("fault(1)", ring -> ring.fault(1), -4));
            State lost = new State("rows without a way home", () -> Sentences.ringing(4, "x.14", "pp"));
            dueNoChange(new State(lost.name, () -> {
                CalledTouches ring = lost.maker.get();
                ring.call(2, 9);
                return ring;
            }), new Call("row(1, 5)", ring -> ring.row(1, 5), -4));
        });
    }

    private static List<Call> looks() {
        List<Call> calls = new ArrayList<>();
        calls.add(new Call("bell(last, n)", ring -> ring.bell(ring.count(3), ring.count(0)), 0));
        calls.add(new Call("change(t - 1, c - 1)", ring -> ring.change(ring.count(2) - 1, ring.count(1) - 1), 0));
        for (int number = 0; number <= 5; number++) {
            int what = number;
            calls.add(new Call("row(last, " + what + ")", ring -> ring.row(ring.count(3), what), 0));
            calls.add(new Call("path(2, " + what + ")", ring -> ring.path(2, what), 0));
        }
        calls.add(new Call("blows(n, n)", ring -> ring.blows(ring.count(0), ring.count(0)), 0));
        for (int number = 0; number <= 15; number++) {
            int what = number;
            calls.add(new Call("count(" + what + ")", ring -> ring.count(what), 0));
        }
        calls.add(new Call("music()", ring -> (int) (ring.music() * 1000000), 0));
        calls.add(new Call("home(0)", ring -> ring.home(0), 0));
        calls.add(new Call("home(1)", ring -> ring.home(1), 0));
        calls.add(new Call("homeCall(0)", ring -> ring.homeCall(0), 0));
        for (int number = 0; number <= 2; number++) {
            int kind = number;
            calls.add(new Call("ifCalled(0, " + kind + ", 0)", ring -> ring.ifCalled(0, kind, 0), 0));
            calls.add(new Call("ifCalled(t - 1, .., 2)", ring -> ring.ifCalled(ring.count(2) - 1, kind, 2), 0));
        }
        calls.add(new Call("best()", CalledTouches::best, 0));
        calls.add(new Call("fault(0)", ring -> ring.fault(0), 0));
        calls.add(new Call("fault(1)", ring -> ring.fault(1), 0));
        return calls;
    }
}
