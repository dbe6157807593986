/** Sentences that name a boundary: "Leads home" in "Terms", and the promises 18 to 21. */
public final class HomeEdgesTest {
    private static final String TWENTY_CROSSES = "x" + ".x".repeat(19);

    private HomeEdgesTest() {
    }

    public static void main(String[] args) {
        leadsHome();
        home();
        homeCall();
        ifCalled();
        best();
        Sentences.end("HomeEdgesTest");
    }

    private static void holds(String sentence, Runnable test) {
        Sentences.holds(sentence, test);
    }

    private static void due(String call, double got, double due) {
        Sentences.due(call, got, due);
    }

    /** A lead of one change: plain x, bob 14, single like the bob; the leads p and b in turn make a plain hunt. */
    private static CalledTouches hunting(String touch) {
        CalledTouches ring = Sentences.ringing(4, "x", touch);
        ring.call(1, 9);
        ring.call(2, 9);
        return ring;
    }

    private static void dueHome(String what, CalledTouches ring, int... calls) {
        due("home(0), " + what, ring.home(0), calls.length);
        due("home(1), " + what, ring.home(1), calls.length);
        due("row(last, 5), " + what, ring.row(ring.count(3), 5), calls.length);
        for (int i = 0; i < calls.length; i++) {
            due("homeCall(" + i + "), " + what, ring.homeCall(i), calls[i]);
        }
        due("behind the last call home, " + what, ring.homeCall(calls.length), -4);
        due("a call far behind it, " + what, ring.homeCall(Integer.MAX_VALUE), -4);
        due("a call ahead of the first one, " + what, ring.homeCall(-1), -1);
    }

    private static void leadsHome() {
        holds("The fewest leads home are the least number of them (0 from rounds)", () -> {
            for (int bells = 4; bells <= 7; bells++) {
                dueHome("no leads", Sentences.of(bells));
            }
            dueHome("come round", hunting("pbpbpbpb"));
            dueHome("come round by one kind", hunting("pp"));
            dueHome("rounds backwards, the greatest row", Sentences.ringing(7, "7.1.7.1.7.1.7", "p"), 0);
            dueHome("320 rows", Sentences.ringing(4, TWENTY_CROSSES, "p".repeat(16)));
        });
        holds("behind some leads (of the method, each plain or with a call) the row is rounds", () -> {
            dueHome("one plain lead", hunting("p"), 0);
            dueHome("one bob", hunting("b"), 1);
            dueHome("a bob and a plain lead", hunting("pb"), 1, 0);
            dueHome("three leads", hunting("bpb"), 1, 0, 1);
            dueHome("the other way round", hunting("pbpbp"), 1, 0, 1);
            dueHome("rounds in the midst are not enough", Sentences.ringing(4, "x.14", "p"), 0, 0, 0);
        });
        holds("each one is the least one (0, 1, 2), with which one lead fewer is needed behind it", () -> {
            dueHome("four leads, both ways round", hunting("pbpb"), 0, 1, 0, 1);
            CalledTouches alike = hunting("p");
            alike.call(1, 0);
            alike.call(2, 0);
            dueHome("three kinds alike", alike, 0);
            CalledTouches single = hunting("s");
            dueHome("a bob rather than a single", single, 1);
            single.call(1, 12);
            dueHome("a single alone", single, 2);
        });
        holds("(leads home) rows from which one came home by other calls", () -> {
            CalledTouches ring = Sentences.ringing(4, "x.14", "pp");
            due("row(1, 5) with a single", ring.call(1, 3), 9);
            due("one comes home from the row 1 then", ring.row(1, 5) > 0 ? 1 : 0, 1);
            due("and from the last one", ring.home(1), 2);
            ring.call(1, 9);
            ring.call(2, 9);
            due("row(1, 5) with three leads alike", ring.row(1, 5), -4);
            due("row(3, 5)", ring.row(3, 5), -4);
            dueHome("three leads alike", ring, 0, 0);
            CalledTouches other = Sentences.ringing(4, "x.12.14.12", "ppppp");
            Sentences.same("row 4", Sentences.row(other, 4), "2341");
            due("row(4, 5)", other.row(4, 5) > 0 ? 1 : 0, 1);
            Sentences.write(other, "x.14");
            other.method();
            other.call(2, 9);
            for (int k = 1; k <= 9; k += 2) {
                due("row(" + k + ", 5) by another method", other.row(k, 5), -4);
            }
            dueHome("by another method", other, 0, 0, 0);
        });
        holds("(leads home) as the method, the calls and the bells are then", () -> {
            CalledTouches ring = hunting("pb");
            dueHome("at first", ring, 1, 0);
            ring.call(1, 0);
            dueHome("with another bob", ring);
            ring.undo();
            dueHome("with the bob of before", ring, 1, 0);
            Sentences.write(ring, "x.14");
            ring.method();
            ring.cut(1);
            dueHome("with another method", ring, 0, 0, 0);
            ring.bells(5);
            dueHome("with other bells", ring);
            ring.add(0);
            due("home(0) of 5", ring.home(0), ring.home(1));
        });
    }

    private static void home() {
        holds("way: 0: told by spreading from rounds back; 1: .. from the row until rounds are met; INVALID_ARGUMENT",
            () -> {
                CalledTouches none = new CalledTouches();
                Sentences.refuses("home without leads", none::home, 0, 1);
                CalledTouches ring = hunting("pbp");
                Sentences.refuses("home", ring::home, 0, 1);
                due("states", ring.count(15), 4);
            });
        holds("Returns how many (the same for both)", () -> {
            for (int bells = 4; bells <= 7; bells++) {
                CalledTouches ring = Sentences.of(bells);
                for (int lead = 0; lead < 16; lead++) {
                    ring.add(lead * lead % 3);
                    due("home(0)", ring.home(0), ring.home(1));
                    due("home is known", ring.home(0) >= 0 ? 1 : 0, 1);
                }
            }
            CalledTouches seven = Sentences.of(7);
            seven.add(0);
            seven.add(1);
            due("home(0) of 7", seven.home(0), 6);
            due("home(1) of 7", seven.home(1), 6);
        });
        holds("NOT_FOUND if there are none (from the last row of a touch there always are some)", () -> {
            CalledTouches ring = Sentences.ringing(4, "x.14", "p");
            ring.call(2, 9);
            due("row(1, 5)", ring.row(1, 5), -4);
            due("home(0)", ring.home(0), 3);
            due("home(1)", ring.home(1), 3);
        });
    }

    private static void homeCall() {
        holds("index: 0 for the first lead; INVALID_ARGUMENT if index is below 0", () -> {
            CalledTouches ring = hunting("pbpb");
            int[] belows = {-1, -2, -4, -65536, Integer.MIN_VALUE, Integer.MIN_VALUE + 1};
            for (int index : belows) {
                due("homeCall(" + index + ")", ring.homeCall(index), -1);
                due("homeCall(" + index + ") at home", new CalledTouches().homeCall(index), -1);
            }
            due("homeCall(0)", ring.homeCall(0), 0);
        });
        holds("NOT_FOUND .. with not so many leads", () -> {
            CalledTouches ring = hunting("pbpb");
            due("the last one", ring.homeCall(3), 1);
            int[] beyond = {4, 5, 16, 17, 5040, 65536, Integer.MAX_VALUE - 1, Integer.MAX_VALUE};
            for (int index : beyond) {
                due("homeCall(" + index + ")", ring.homeCall(index), -4);
                due("homeCall(" + index + ") at home", new CalledTouches().homeCall(index), -4);
            }
            due("homeCall(0) at home", new CalledTouches().homeCall(0), -4);
        });
        holds("(homeCall) the leads that are told lead home", () -> {
            CalledTouches ring = Sentences.of(7);
            ring.add(0);
            ring.add(1);
            int leads = ring.home(0);
            for (int i = 0; i < leads; i++) {
                ring.add(ring.homeCall(0));
                due("home(1) behind it", ring.home(1), leads - 1 - i);
            }
            due("come round", ring.count(4), ring.count(3));
        });
    }

    private static void dueIf(CalledTouches ring, int lead, int kind, int isTrue, int round, int sounding) {
        String call = "ifCalled(" + lead + ", " + kind + ", ";
        due(call + "0)", ring.ifCalled(lead, kind, 0), isTrue);
        due(call + "1)", ring.ifCalled(lead, kind, 1), round);
        due(call + "2)", ring.ifCalled(lead, kind, 2), sounding);
    }

    private static void ifCalled() {
        holds("lead: a lead of the touch, from 0 (ifCalled)", () -> {
            CalledTouches none = Sentences.of(4);
            CalledTouches one = hunting("p");
            CalledTouches full = hunting("pb".repeat(8));
            for (int number = 0; number <= 2; number++) {
                int what = number;
                due("without leads", none.ifCalled(0, 0, what), -1);
                due("lead -1 without leads", none.ifCalled(-1, 0, what), -1);
                Sentences.refuses("ifCalled(lead, 1, what) of one", lead -> one.ifCalled(lead, 1, what), 0, 0);
                Sentences.refuses("ifCalled(lead, 1, what) of 16", lead -> full.ifCalled(lead, 1, what), 0, 15);
            }
            dueIf(one, 0, 1, 1, -4, 0);
            dueIf(full, 15, 0, 0, 8, 1);
        });
        holds("kind: 0 to 2; what: 0 to 2 (ifCalled)", () -> {
            CalledTouches ring = hunting("pb");
            for (int number = 0; number <= 2; number++) {
                int inside = number;
                Sentences.refuses("ifCalled(0, kind, ..)", kind -> ring.ifCalled(0, kind, inside), 0, 2);
                Sentences.refuses("ifCalled(1, .., what)", what -> ring.ifCalled(1, inside, what), 0, 2);
            }
            due("all out of their ranges", ring.ifCalled(2, 3, 3), -1);
            due("all the least", ring.ifCalled(Integer.MIN_VALUE, Integer.MIN_VALUE, Integer.MIN_VALUE), -1);
        });
        holds("0: 1 if the touch would be true, otherwise 0", () -> {
            CalledTouches ring = hunting("pbpbp");
            ring.call(2, 0);
            due("as it is", ring.ifCalled(0, 0, 0), 1);
            due("the second lead plain: rounds again, then the row 1", ring.ifCalled(1, 0, 0), 0);
            due("the last lead a bob: the row 3 again", ring.ifCalled(4, 1, 0), 0);
            due("the last lead a single that is like a plain one", ring.ifCalled(4, 2, 0), 1);
            CalledTouches two = hunting("pb");
            due("rounds at the end", two.ifCalled(1, 0, 0), 1);
        });
        holds("1: the row at which it would come round, NOT_FOUND if it would not", () -> {
            CalledTouches ring = hunting("pb");
            due("by the last lead", ring.ifCalled(1, 0, 1), 2);
            due("by the first lead", ring.ifCalled(0, 1, 1), 2);
            due("as it is", ring.ifCalled(0, 0, 1), -4);
            due("as it is, the second", ring.ifCalled(1, 1, 1), -4);
            CalledTouches four = hunting("pppp");
            due("the first time", four.ifCalled(3, 0, 1), 2);
            due("still the first time", four.ifCalled(3, 1, 1), 2);
            due("never", four.ifCalled(1, 1, 1), -4);
        });
        holds("2: rows but the row 0 that would sound well", () -> {
            CalledTouches ring = Sentences.ringing(4, "34", "pppp");
            dueIf(ring, 0, 0, 0, 2, 4);
            due("a bob ahead of all: 1324, 3124, 1324, 3124", ring.ifCalled(0, 1, 2), 2);
            due("a bob at the end", ring.ifCalled(3, 1, 2), 3);
            due("the same single", ring.ifCalled(3, 2, 2), 4);
        });
        holds("INVALID_ARGUMENT rather than NOT_FOUND (ifCalled)", () -> {
            CalledTouches ring = hunting("pb");
            due("ifCalled(0, 0, 1)", ring.ifCalled(0, 0, 1), -4);
            due("ifCalled(-1, 0, 1)", ring.ifCalled(-1, 0, 1), -1);
            due("ifCalled(2, 0, 1)", ring.ifCalled(2, 0, 1), -1);
            due("ifCalled(0, 3, 1)", ring.ifCalled(0, 3, 1), -1);
        });
        holds("(ifCalled) nothing is changed", () -> {
            CalledTouches ring = Sentences.ringing(6, "x", "psb");
            String before = Sentences.look(ring);
            for (int kind = 0; kind <= 2; kind++) {
                ring.ifCalled(0, kind, 0);
                ring.ifCalled(1, kind, 1);
                ring.ifCalled(2, kind, 2);
            }
            Sentences.same("all that can be seen", Sentences.look(ring), before);
        });
    }

    private static void best() {
        holds("of several the least", () -> {
            CalledTouches alike = hunting("p");
            alike.call(1, 0);
            alike.call(2, 0);
            due("three kinds alike", alike.best(), 0);
            due("bob and single alike, a plain lead repeats", hunting("pp").best(), 1);
            due("all three bring a row", hunting("").best(), 0);
            CalledTouches ring = hunting("pb");
            due("a bob brings nothing, a plain lead a row", ring.best(), 0);
            ring.call(1, 0);
            Sentences.write(ring, "ps");
            ring.touch();
            due("plain and bob bring a row", ring.best(), 0);
        });
        holds("with which most different rows would be among the rows 1 to the last one", () -> {
            CalledTouches ring = hunting("p");
            ring.call(1, 0);
            due("rounds are a row more at the row 2", ring.best(), 0);
            ring.add(0);
            due("rounds and 2143 were there: a single", ring.best(), 2);
            ring.call(2, 0);
            due("no kind brings a row", ring.best(), 0);
            ring.call(1, 12);
            due("a bob alone", ring.best(), 1);
        });
        holds("one more lead (also if there are 16)", () -> {
            CalledTouches ring = hunting("p".repeat(16));
            due("a bob", ring.best(), 1);
            ring.call(1, 0);
            due("a single", ring.best(), 2);
            ring.call(2, 0);
            due("none", ring.best(), 0);
            due("leads", ring.count(2), 16);
            CalledTouches longest = Sentences.ringing(4, TWENTY_CROSSES, "p".repeat(16));
            due("the last row of 340", longest.best(), 1);
            longest.call(1, 0);
            due("the last row of 340", longest.best(), 2);
        });
        holds("(best) nothing is changed", () -> {
            CalledTouches ring = Sentences.ringing(6, "x", "psb".repeat(5) + "b");
            String before = Sentences.look(ring);
            ring.best();
            Sentences.same("all that can be seen", Sentences.look(ring), before);
        });
    }
}
