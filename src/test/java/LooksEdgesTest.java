/** Sentences that name a boundary: "Truth" and "Bells" in "Terms", and the promises 11 to 17. */
public final class LooksEdgesTest {
    private static final String TWENTY_CROSSES = "x" + ".x".repeat(19);
    private static final String HUNT = "x.14.x.14.x.14.x.14";

    private LooksEdgesTest() {
    }

    public static void main(String[] args) {
        comesRound();
        truth();
        falseLeads();
        dodges();
        blowsAndSounds();
        signs();
        bell();
        change();
        row();
        path();
        blows();
        count();
        music();
        rowsOfBefore();
        Sentences.end("LooksEdgesTest");
    }

    private static void holds(String sentence, Runnable test) {
        Sentences.holds(sentence, test);
    }

    private static void due(String call, double got, double due) {
        Sentences.due(call, got, due);
    }

    private static CalledTouches of(int bells) {
        return Sentences.of(bells);
    }

    private static CalledTouches ringing(int bells, String method, String touch) {
        return Sentences.ringing(bells, method, touch);
    }

    /** 16 leads of 20 changes: the rows 0 to 320, of which each even one is rounds. */
    private static CalledTouches longest() {
        return ringing(4, TWENTY_CROSSES, "p".repeat(16));
    }

    private static void dueCount(String what, CalledTouches ring, int number, int due) {
        due("count(" + number + "), " + what, ring.count(number), due);
    }

    private static void comesRound() {
        holds("comes round at k, .. for the least k of 1 or more", () -> {
            dueCount("row 0 is no k", of(4), 4, -4);
            dueCount("rounds at the row 2", ringing(4, "x", "pp"), 4, 2);
            dueCount("again at the row 4", ringing(4, "x", "pppp"), 4, 2);
            dueCount("in the midst of a lead", ringing(4, "x.x.14", "p"), 4, 2);
            dueCount("at the last row", ringing(4, "x.14", "pppp"), 4, 8);
            dueCount("not yet", ringing(4, "x.14", "ppp"), 4, -4);
            dueCount("the longest touch", longest(), 4, 2);
            dueCount("at the row 12, again and again", ringing(6, "x.16" + ".x.16".repeat(9), "p".repeat(15) + "s"), 4, 12);
        });
    }

    private static void truth() {
        holds("It is true, if among its rows 1 to the last one no two are the same", () -> {
            dueTrue("no leads", of(4), 1, -4, 0);
            dueTrue("one row", ringing(4, "x", "p"), 1, -4, 1);
            dueTrue("the last row is the row 0", ringing(4, "x", "pp"), 1, -4, 2);
            dueTrue("all rows of a hunt", ringing(4, HUNT, "p"), 1, -4, 8);
            dueTrue("the last row is the row 1", ringing(4, HUNT + ".x", "p"), 0, 9, 8);
            dueTrue("the row 3 is the row 1", ringing(4, "x.x.x", "p"), 0, 3, 2);
            dueTrue("the last two of three rows", ringing(4, "x.14", "pppp"), 1, -4, 8);
            dueTrue("a lead more", ringing(4, "x.14", "ppppp"), 0, 9, 8);
            dueTrue("only rounds twice, at the rows 2 and 4", ringing(4, "x.x.12.12", "p"), 0, 4, 3);
            dueTrue("the longest touch", longest(), 0, 3, 2);
        });
    }

    private static void dueTrue(String what, CalledTouches ring, int isTrue, int firstRepeat, int different) {
        dueCount(what, ring, 5, isTrue);
        dueCount(what, ring, 6, firstRepeat);
        dueCount(what, ring, 7, different);
    }

    private static void falseLeads() {
        holds("Two leads of the touch are false against one another", () -> {
            dueCount("no leads", of(4), 8, 0);
            dueCount("one lead with rows twice", ringing(4, "x.x.x.x", "p"), 8, 0);
            dueCount("two leads with all rows the same", ringing(4, "x.x", "pp"), 8, 1);
            dueCount("16 leads", ringing(4, "x.x", "p".repeat(16)), 8, 120);
            dueCount("the longest touch", longest(), 8, 120);
            dueCount("leads of one row, turn by turn", ringing(4, "x", "p".repeat(16)), 8, 56);
            dueCount("the third is the first", ringing(4, "x", "ppp"), 8, 1);
        });
        holds("a row behind one of the changes of the one is the same as a row behind one of the changes of the other",
            () -> {
                CalledTouches ring = ringing(4, "12.34", "pb");
                ring.call(1, 0);
                Sentences.dueRows(ring, "1234", "1243", "2143", "2134", "1243");
                dueCount("the first row and the last one", ring, 8, 1);
                CalledTouches none = ringing(4, "12.34", "pp");
                Sentences.dueRows(none, "1234", "1243", "2143", "2134", "1234");
                dueCount("row 0 is behind no change", none, 8, 0);
                CalledTouches twice = ringing(4, "x.x", "pp");
                dueCount("a row that is ahead of a lead is behind the one before only", ringing(4, "x.14", "pp"), 8, 0);
                dueCount("more rows, one pair", twice, 8, 1);
            });
    }

    private static void dueDodges(String what, CalledTouches ring, int bell, int dodges, int first) {
        due("path(" + bell + ", 0), " + what, ring.path(bell, 0), dodges);
        due("path(" + bell + ", 1), " + what, ring.path(bell, 1), first);
    }

    private static void dodges() {
        holds("A bell dodges at k, 0 to the last row less 3", () -> {
            dueDodges("no leads", of(4), 4, 0, -4);
            dueDodges("the last row is 2", ringing(4, "12.12", "p"), 4, 0, -4);
            dueDodges("the last row is 3", ringing(4, "12.12.12", "p"), 4, 1, 0);
            dueDodges("the last row is 4", ringing(4, "12.12", "pp"), 4, 2, 0);
            dueDodges("at the last row less 3", ringing(4, "34.x.12.12", "p"), 3, 1, 1);
            dueDodges("at each row of the longest touch", longest(), 1, 318, 0);
        });
        holds("if its places in the rows k and k + 2 are the same, and in the rows k + 1 and k + 3", () -> {
            CalledTouches ring = ringing(4, "12.12.14", "p");
            Sentences.dueRows(ring, "1234", "1243", "1234", "1324");
            dueDodges("places 3 4 3 2", ring, 3, 0, -4);
            CalledTouches other = ringing(4, "12.14.14", "p");
            Sentences.dueRows(other, "1234", "1243", "1423", "1243");
            dueDodges("places 3 4 4 4", other, 3, 0, -4);
            dueDodges("places 4 3 2 3", other, 4, 0, -4);
            CalledTouches third = ringing(4, "12.12.12.34.34", "p");
            dueDodges("places 3 4 3 4 4 4", third, 3, 1, 0);
        });
        holds("but not those in the rows k and k + 1", () -> {
            CalledTouches ring = ringing(4, "12.12.12", "p");
            dueDodges("it stays at the place 1", ring, 1, 0, -4);
            dueDodges("it stays at the place 2", ring, 2, 0, -4);
            dueDodges("it changes between 3 and 4", ring, 3, 1, 0);
        });
    }

    private static void blowsAndSounds() {
        holds("It makes a blow at a place, for each row but the row 0 in which it rings there", () -> {
            due("no leads", of(4).blows(1, 1), 0);
            CalledTouches ring = ringing(4, "12", "p");
            due("the row 1", ring.blows(1, 1), 1);
            due("the row 0 only", ring.blows(3, 3), 0);
            due("the last row", ring.blows(3, 4), 1);
            CalledTouches longest = longest();
            due("half the rows", longest.blows(1, 1), 160);
            due("the other half", longest.blows(1, 2), 160);
            due("never", longest.blows(1, 3), 0);
        });
        holds("A row sounds well, if its last three bells rise", () -> {
            dueSound(4, "34", "2134", 1);
            dueSound(4, "12", "1243", 0);
            dueSound(4, "14", "1324", 0);
            dueSound(5, "145", "13245", 1);
            dueSound(5, "123", "12354", 0);
            dueSound(5, "125", "12435", 0);
            dueSound(6, "1256", "124356", 1);
            dueSound(6, "1234", "123465", 0);
            dueSound(6, "1236", "123546", 0);
            dueSound(7, "12367", "1235467", 1);
            dueSound(7, "12345", "1234576", 0);
            dueSound(7, "12347", "1234657", 0);
        });
    }

    private static void dueSound(int bells, String change, String row, int due) {
        CalledTouches ring = ringing(bells, change, "p");
        Sentences.same("row 1", Sentences.row(ring, 1), row);
        due("row(1, 2) of " + row, ring.row(1, 2), due);
        due("row(0, 2) of rounds", ring.row(0, 2), 1);
        due("count(9), without the row 0", ring.count(9), due);
    }

    private static void signs() {
        holds("The sign of a row is 0, if the number of pairs .. is even, otherwise 1", () -> {
            dueSigns(ringing(4, HUNT, "p"), 0, 0, 1, 1, 0, 0, 1, 1, 0);
            dueSigns(ringing(5, "5.1", "ppppp"), 0, 0, 0, 0, 0, 0, 0, 0, 0, 0, 0);
            dueSigns(ringing(6, "x.16", "pppppp"), 0, 1, 1, 0, 0, 1, 1, 0, 0, 1, 1, 0, 0);
            dueSigns(ringing(7, "7.1", "ppp"), 0, 1, 0, 1, 0, 1, 0);
            dueSigns(ringing(5, "123.145.3", "pp"), 0, 1, 0, 0, 1, 0, 0);
            dueSigns(ringing(7, "3.147", "pp"), 0, 1, 1, 0, 0);
        });
        holds("(signs) one pair, and all pairs", () -> {
            dueSigns(ringing(4, "12", "p"), 0, 1);
            due("4321", ringing(4, "x.14", "pp").row(4, 0), 0);
            due("54321", ringing(5, "5.1.5.1.5", "p").row(5, 0), 0);
            due("654321", ringing(6, "x.16", "ppp").row(6, 0), 1);
            due("7654321", ringing(7, "7.1.7.1.7.1.7", "p").row(7, 0), 1);
        });
    }

    private static void dueSigns(CalledTouches ring, int... dues) {
        due("the last row", ring.count(3), dues.length - 1);
        for (int k = 0; k < dues.length; k++) {
            due("row(" + k + ", 0)", ring.row(k, 0), dues[k]);
            due("row(" + k + ", 1)", ring.row(k, 1), dues[k]);
        }
    }

    private static void bell() {
        holds("row: 0 to the last one (bell)", () -> {
            CalledTouches none = of(4);
            Sentences.refuses("bell(row, 1) without leads", row -> none.bell(row, 1), 0, 0);
            due("bell(0, 4)", none.bell(0, 4), 4);
            CalledTouches one = ringing(4, "x", "p");
            Sentences.refuses("bell(row, 1) of one row", row -> one.bell(row, 1), 0, 1);
            due("bell(1, 1)", one.bell(1, 1), 2);
            CalledTouches longest = longest();
            Sentences.refuses("bell(row, 1) of 320 rows", row -> longest.bell(row, 1), 0, 320);
            due("bell(319, 1)", longest.bell(319, 1), 2);
            due("bell(320, 1)", longest.bell(320, 1), 1);
            longest.cut(15);
            Sentences.refuses("bell(row, 1) after a cut", row -> longest.bell(row, 1), 0, 300);
        });
        holds("place: 1 to n (bell)", () -> {
            for (int bells = 4; bells <= 7; bells++) {
                CalledTouches ring = of(bells);
                ring.add(0);
                Sentences.refuses("bell(0, place)", place -> ring.bell(0, place), 1, bells);
                Sentences.refuses("bell(3, place)", place -> ring.bell(3, place), 1, bells);
                due("bell(0, 1)", ring.bell(0, 1), 1);
                due("bell(0, n)", ring.bell(0, bells), bells);
            }
        });
        holds("(bell) both arguments are out of their ranges", () -> {
            CalledTouches ring = of(4);
            due("bell(-1, 0)", ring.bell(-1, 0), -1);
            due("bell(1, 5)", ring.bell(1, 5), -1);
            due("bell(least, least)", ring.bell(Integer.MIN_VALUE, Integer.MIN_VALUE), -1);
            due("bell(greatest, greatest)", ring.bell(Integer.MAX_VALUE, Integer.MAX_VALUE), -1);
        });
    }

    private static void change() {
        holds("lead: a lead of the touch, from 0; or -1 for a plain lead", () -> {
            CalledTouches ring = of(4);
            due("change(-1, 7) without leads", ring.change(-1, 7), 3);
            Sentences.refuses("change(lead, 0) without leads", lead -> ring.change(lead, 0), -1, -1);
            Sentences.write(ring, "bs" + "p".repeat(13) + "b");
            ring.touch();
            due("change(-1, 7)", ring.change(-1, 7), 3);
            due("change(0, 7)", ring.change(0, 7), 9);
            due("change(1, 7)", ring.change(1, 7), 12);
            due("change(14, 7)", ring.change(14, 7), 3);
            due("change(15, 7)", ring.change(15, 7), 9);
            Sentences.refuses("change(lead, 0)", lead -> ring.change(lead, 0), -1, 15);
            ring.cut(3);
            Sentences.refuses("change(lead, 0) after a cut", lead -> ring.change(lead, 0), -1, 2);
        });
        holds("change: 0 for its first change, and so on; NOT_FOUND if a lead has not so many changes", () -> {
            int[] lengths = {1, 2, 19, 20};
            for (int length : lengths) {
                CalledTouches ring = ringing(4, "14" + ".x".repeat(length - 1), "pb");
                for (int lead = -1; lead <= 1; lead++) {
                    due("the first change", ring.change(lead, 0), 9);
                    due("the last change", ring.change(lead, length - 1), length == 1 || lead == 1 ? 9 : 0);
                    due("behind the last change", ring.change(lead, length), -4);
                    due("change 20", ring.change(lead, 20), -4);
                    due("change 21", ring.change(lead, 21), -4);
                    due("the greatest", ring.change(lead, Integer.MAX_VALUE), -4);
                    due("change(lead, -1)", ring.change(lead, -1), -1);
                    due("the least", ring.change(lead, Integer.MIN_VALUE), -1);
                }
            }
        });
        holds("INVALID_ARGUMENT rather than NOT_FOUND (change)", () -> {
            CalledTouches ring = ringing(4, "x.14", "p");
            Sentences.refuses("change(lead, 2)", lead -> ring.change(lead, 2), -1, 0);
            Sentences.refuses("change(lead, greatest)", lead -> ring.change(lead, Integer.MAX_VALUE), -1, 0);
            due("change(-2, -1)", ring.change(-2, -1), -1);
            due("change(1, -1)", ring.change(1, -1), -1);
        });
    }

    private static void row() {
        holds("row: 0 to the last one (row)", () -> {
            CalledTouches none = of(4);
            CalledTouches longest = longest();
            for (int number = 0; number <= 5; number++) {
                int what = number;
                Sentences.refuses("row(row, what) without leads", row -> none.row(row, what), 0, 0);
                Sentences.refuses("row(row, what) of 320 rows", row -> longest.row(row, what), 0, 320);
            }
            int[] zero = {0, 0, 1, 4, 0, 0};
            for (int what = 0; what <= 5; what++) {
                due("row(0, " + what + ")", none.row(0, what), zero[what]);
                due("row(320, " + what + ")", longest.row(320, what), zero[what]);
            }
        });
        holds("what: 0 .. 5 (row); INVALID_ARGUMENT", () -> {
            CalledTouches ring = ringing(4, "x.14", "p");
            Sentences.refuses("row(0, what)", what -> ring.row(0, what), 0, 5);
            Sentences.refuses("row(2, what)", what -> ring.row(2, what), 0, 5);
            due("row(3, 6)", ring.row(3, 6), -1);
            due("row(-1, -1)", ring.row(-1, -1), -1);
            due("row(least, least)", ring.row(Integer.MIN_VALUE, Integer.MIN_VALUE), -1);
            due("row(greatest, greatest)", ring.row(Integer.MAX_VALUE, Integer.MAX_VALUE), -1);
        });
        holds("how many bells are at their own places", () -> {
            for (int bells = 4; bells <= 7; bells++) {
                due("rounds", of(bells).row(0, 3), bells);
            }
            due("1243", ringing(4, "12", "p").row(1, 3), 2);
            due("2143", ringing(4, "x", "p").row(1, 3), 0);
            due("1324", ringing(4, "14", "p").row(1, 3), 2);
            due("2134567", ringing(7, "34567", "p").row(1, 3), 5);
            due("1234576", ringing(7, "12345", "p").row(1, 3), 5);
            due("7654321", ringing(7, "7.1.7.1.7.1.7", "p").row(7, 3), 1);
        });
        holds("the first row that is the same, itself if there is none ahead of it", () -> {
            CalledTouches ring = ringing(4, HUNT, "pp");
            for (int k = 0; k <= 16; k++) {
                due("row(" + k + ", 4)", ring.row(k, 4), k % 8);
            }
            CalledTouches longest = longest();
            due("row(319, 4)", longest.row(319, 4), 1);
            due("row(320, 4)", longest.row(320, 4), 0);
        });
        holds("(the first row that is the same) also of rounds backwards, the greatest row", () -> {
            for (int bells = 4; bells <= 7; bells++) {
                CalledTouches ring = ringing(bells, bells % 2 == 0 ? "x.1" + bells : bells + ".1", "p".repeat(16));
                Sentences.same("row n", Sentences.row(ring, bells), "7654321".substring(7 - bells));
                due("row(n, 4)", ring.row(bells, 4), bells);
                due("row(3 * n, 4)", ring.row(3 * bells, 4), bells);
                due("different rows", ring.count(7), 2 * bells);
                due("the first repeat", ring.count(6), 2 * bells + 1);
            }
        });
        holds("the fewest leads home from it, NOT_FOUND if there are none", () -> {
            CalledTouches ring = ringing(4, "x.14", "pppp");
            ring.call(2, 9);
            int[] dues = {0, -4, 3, -4, 2, -4, 1, -4, 0};
            for (int k = 0; k <= 8; k++) {
                due("row(" + k + ", 5)", ring.row(k, 5), dues[k]);
            }
            due("the path home by another single", ring.call(2, 0), 9);
            due("row(2, 5) then", ring.row(2, 5), 3);
            due("row(1, 5) then", ring.row(1, 5), -4);
        });
        holds("INVALID_ARGUMENT rather than NOT_FOUND (row)", () -> {
            CalledTouches ring = ringing(4, "x.14", "p");
            ring.call(2, 9);
            due("row(1, 5)", ring.row(1, 5), -4);
            due("row(-1, 5)", ring.row(-1, 5), -1);
            due("row(3, 5)", ring.row(3, 5), -1);
            due("row(1, 6)", ring.row(1, 6), -1);
        });
    }

    private static void path() {
        holds("bell: 1 to n (path)", () -> {
            for (int bells = 4; bells <= 7; bells++) {
                CalledTouches ring = of(bells);
                ring.add(1);
                for (int number = 0; number <= 4; number++) {
                    int what = number;
                    Sentences.refuses("path(bell, what)", bell -> ring.path(bell, what), 1, bells);
                }
            }
        });
        holds("what: 0 .. 4 (path); INVALID_ARGUMENT", () -> {
            CalledTouches ring = of(4);
            Sentences.refuses("path(1, what)", what -> ring.path(1, what), 0, 4);
            Sentences.refuses("path(4, what)", what -> ring.path(4, what), 0, 4);
            due("path(0, 5)", ring.path(0, 5), -1);
            due("path(5, -1)", ring.path(5, -1), -1);
            due("path(greatest, least)", ring.path(Integer.MAX_VALUE, Integer.MIN_VALUE), -1);
        });
        holds("the first row at which it dodges, NOT_FOUND without one", () -> {
            CalledTouches none = of(4);
            for (int bell = 1; bell <= 4; bell++) {
                due("path(bell, 1) without leads", none.path(bell, 1), -4);
            }
            CalledTouches ring = ringing(4, "x.14.12.12.12.34.x.34", "p");
            Sentences.dueRows(ring, "1234", "2143", "2413", "2431", "2413", "2431", "4231", "2413", "4213");
            dueDodges("at the row 2", ring, 1, 1, 2);
            dueDodges("at the row 2", ring, 3, 1, 2);
            dueDodges("at the last rows", ring, 4, 1, 5);
            dueDodges("at the last rows", ring, 2, 1, 5);
        });
        holds("INVALID_ARGUMENT rather than NOT_FOUND (path)", () -> {
            CalledTouches ring = of(6);
            due("path(1, 1)", ring.path(1, 1), -4);
            due("path(0, 1)", ring.path(0, 1), -1);
            due("path(7, 1)", ring.path(7, 1), -1);
        });
        holds("in how many rows but the row 0 it leads (rings at the place 1)", () -> {
            due("no leads", of(4).path(1, 2), 0);
            due("the row 0 only", ringing(4, "x", "p").path(1, 2), 0);
            due("the row 1", ringing(4, "x", "p").path(2, 2), 1);
            due("each row", ringing(4, "12", "p".repeat(16)).path(1, 2), 16);
            due("never", ringing(4, "12", "p".repeat(16)).path(2, 2), 0);
            due("half of the rows", longest().path(2, 2), 160);
        });
        holds("how often it stays at its place by a change", () -> {
            due("no leads", of(4).path(1, 3), 0);
            due("no leads, the bell n", of(4).path(4, 3), 0);
            CalledTouches one = ringing(4, "12", "p");
            due("the first change", one.path(1, 3), 1);
            due("the bell n, not by this one", one.path(4, 3), 0);
            due("not by this one", one.path(3, 3), 0);
            CalledTouches ring = ringing(4, "x.14", "ppp");
            due("by the change 4, at the place 4", ring.path(1, 3), 1);
            due("by the change 2, at the place 1, and by the last one, at the place 4", ring.path(2, 3), 2);
            due("by the change 2, at the place 4, and by the last one, at the place 1", ring.path(3, 3), 2);
            due("by each change", ringing(4, "12", "p".repeat(16)).path(2, 3), 16);
            due("by none", longest().path(2, 3), 0);
        });
        holds("its place in the last row", () -> {
            for (int bell = 1; bell <= 4; bell++) {
                due("no leads", of(4).path(bell, 4), bell);
                due("rounds at the row 320", longest().path(bell, 4), bell);
            }
            CalledTouches ring = ringing(4, "x.14", "p");
            int[] dues = {3, 1, 4, 2};
            for (int bell = 1; bell <= 4; bell++) {
                due("in 2413", ring.path(bell, 4), dues[bell - 1]);
            }
        });
    }

    private static void blows() {
        holds("bell: 1 to n; place: 1 to n (blows)", () -> {
            for (int bells = 4; bells <= 7; bells++) {
                CalledTouches ring = of(bells);
                ring.add(0);
                int most = bells;
                Sentences.refuses("blows(bell, 1)", bell -> ring.blows(bell, 1), 1, most);
                Sentences.refuses("blows(bell, n)", bell -> ring.blows(bell, most), 1, most);
                Sentences.refuses("blows(1, place)", place -> ring.blows(1, place), 1, most);
                Sentences.refuses("blows(n, place)", place -> ring.blows(most, place), 1, most);
                due("blows(0, n + 1)", ring.blows(0, most + 1), -1);
                due("blows(least, greatest)", ring.blows(Integer.MIN_VALUE, Integer.MAX_VALUE), -1);
                int all = 0;
                for (int place = 1; place <= bells; place++) {
                    all += ring.blows(most, place);
                }
                due("a blow a row", all, ring.count(3));
            }
        });
        holds("(blows) of the bells and the places 1 and n", () -> {
            CalledTouches ring = ringing(7, "7.1", "p");
            Sentences.dueRows(ring, "1234567", "2143657", "2416375");
            due("blows(1, 1)", ring.blows(1, 1), 0);
            due("blows(2, 1)", ring.blows(2, 1), 2);
            due("blows(7, 7)", ring.blows(7, 7), 1);
            due("blows(5, 7)", ring.blows(5, 7), 1);
            due("blows(1, 7)", ring.blows(1, 7), 0);
        });
    }

    private static void count() {
        holds("what: 0 .. 15 (count); INVALID_ARGUMENT", () -> {
            Sentences.refuses("count", new CalledTouches()::count, 0, 15);
            Sentences.refuses("count", longest()::count, 0, 15);
        });
        holds("(count) of a touch without leads", () -> {
            int[] dues = {6, 12, 0, 0, -4, 1, -4, 0, 0, 0, 0, 5, 9, 15, 0, 0};
            CalledTouches ring = new CalledTouches();
            for (int what = 0; what <= 15; what++) {
                dueCount("a new object", ring, what, dues[what]);
            }
        });
        holds("(count) of the longest touch, with a full pad and a full history", () -> {
            int[] dues = {4, 20, 16, 320, 2, 0, 3, 2, 120, 160, 0, 1, 9, 12, 80, 4};
            CalledTouches ring = longest();
            ring.cut(16);
            Sentences.write(ring, "x".repeat(80));
            for (int what = 0; what <= 15; what++) {
                dueCount("the longest touch", ring, what, dues[what]);
            }
        });
        holds("leads that are not plain", () -> {
            dueCount("none", ringing(6, "x", "p".repeat(16)), 10, 0);
            dueCount("all", ringing(6, "x", "bs".repeat(8)), 10, 16);
            dueCount("the first and the last", ringing(6, "x", "b" + "p".repeat(14) + "s"), 10, 2);
            CalledTouches ring = ringing(6, "x", "bsb");
            ring.call(1, 0);
            dueCount("also a bob that is like the last change", ring, 10, 3);
            ring.cut(1);
            dueCount("after a cut", ring, 10, 1);
        });
        holds("how many plain leads, rung from rounds on, come to rounds at the end of a lead for the first time", () -> {
            for (int bells = 4; bells <= 7; bells++) {
                dueCount("at the beginning", of(bells), 11, bells - 1);
            }
            dueCount("one lead", ringing(4, "x.x", ""), 11, 1);
            dueCount("two leads", ringing(4, "x", ""), 11, 2);
            dueCount("12 leads, the most", ringing(7, "3.147", ""), 11, 12);
            dueCount("rounds in the midst of a lead do not count", ringing(4, "x.x.14", ""), 11, 2);
            dueCount("whatever the touch is", ringing(4, "x.14", "bss"), 11, 4);
            dueCount("a lead of 20 changes", ringing(4, TWENTY_CROSSES, ""), 11, 1);
        });
        holds("rows but the row 0 that sound well", () -> {
            dueCount("no leads", of(4), 9, 0);
            dueCount("the row 1", ringing(4, "34", "p"), 9, 1);
            dueCount("the last row", ringing(4, "x", "pp"), 9, 1);
            dueCount("all", ringing(4, "34", "p".repeat(16)), 9, 16);
            dueCount("none", ringing(4, "x.14", "ppp"), 9, 0);
        });
    }

    private static void music() {
        holds("0.0 without leads", () -> {
            due("music", new CalledTouches().music(), 0.0);
            CalledTouches ring = ringing(4, "34", "p");
            ring.cut(0);
            due("music after a cut", ring.music(), 0.0);
            due("its sign", 1.0 / ring.music(), Double.POSITIVE_INFINITY);
        });
        holds("Returns count(9) as a double, divided by the last row", () -> {
            due("all rows", ringing(4, "34", "p".repeat(16)).music(), 1.0);
            due("no row", ringing(4, "x.14", "ppp").music(), 0.0);
            due("two of 3", ringing(4, "x.12.34", "p").music(), 2.0 / 3.0);
            due("one of 9", ringing(4, HUNT + ".x", "p").music(), 1.0 / 9.0);
            due("half of 320", longest().music(), 0.5);
            due("one row, which does", ringing(4, "34", "p").music(), 1.0);
            due("one row, which does not", ringing(4, "x", "p").music(), 0.0);
        });
    }

    private static String allLooks(CalledTouches ring) {
        StringBuilder text = new StringBuilder();
        for (int what = 0; what <= 14; what++) {
            text.append(ring.count(what)).append(' ');
        }
        int bells = ring.count(0);
        for (int bell = 1; bell <= bells; bell++) {
            for (int what = 0; what <= 4; what++) {
                text.append(ring.path(bell, what)).append(' ');
            }
            text.append(ring.blows(bell, 1)).append(' ').append(ring.blows(bell, bells)).append(' ');
        }
        return text.append(ring.music()).append(' ').append(ring.home(0)).append(' ').append(ring.best()).toString();
    }

    private static void rowsOfBefore() {
        holds("(looks) rows that were rung before a cut are no rows of the touch", () -> {
            CalledTouches ring = ringing(4, "12.12", "pp");
            due("dodges", ring.path(4, 0), 2);
            ring.cut(1);
            dueDodges("after the cut", ring, 4, 0, -4);
            for (int leads = 4; leads >= 0; leads--) {
                CalledTouches cut = longest();
                allLooks(cut);
                cut.cut(leads);
                CalledTouches made = ringing(4, TWENTY_CROSSES, "p".repeat(leads));
                Sentences.same("all looks", allLooks(cut), allLooks(made));
            }
        });
        holds("(looks) rows that another call or another lead would bring are no rows of the touch", () -> {
            CalledTouches ring = ringing(5, "5.1", "pbs");
            String before = allLooks(ring);
            ring.ifCalled(0, 2, 0);
            Sentences.same("all looks behind ifCalled", allLooks(ring), before);
            ring.best();
            Sentences.same("all looks behind best", allLooks(ring), before);
        });
        holds("(looks) where a row was rung first by another method, tells nothing", () -> {
            CalledTouches ring = ringing(4, "x.x.12.12", "p");
            dueTrue("rounds at the rows 2 and 4", ring, 0, 4, 3);
            Sentences.write(ring, HUNT);
            ring.method();
            dueTrue("rounds at the row 8 alone", ring, 1, -4, 8);
            Sentences.write(ring, "14.x.14.x.14.x.14.x");
            ring.method();
            dueTrue("the same rows from behind", ring, 1, -4, 8);
            ring.add(0);
            dueTrue("all of them twice", ring, 0, 9, 8);
        });
        holds("(looks) as the bells and the method are then", () -> {
            CalledTouches ring = longest();
            allLooks(ring);
            ring.bells(5);
            Sentences.same("all looks behind bells", allLooks(ring), allLooks(of(5)));
            Sentences.write(ring, "5.1");
            ring.method();
            ring.add(1);
            Sentences.same("all looks behind method", allLooks(ring), allLooks(ringing(5, "5.1", "b")));
        });
    }
}
