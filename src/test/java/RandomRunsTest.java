import java.util.Random;

/** Long runs of calls, each answer held against the naive telling of the document. */
public final class RandomRunsTest {
    private static final int CALLS = 512;
    /** The calls of one step of a run: the longest text is written, read and taken over. */
    private static final int MOST_CALLS_OF_A_STEP = 80;
    private static final String[] TEXTS = {"x.14.x.12", "14", "x.16.x.36.14.56", "5.1.5.123", "7.1.7.347.1.127.3",
        "3.1", "x", "1", "pbs", "bbspbb", "ppppppppppppppp", "ssbb", "34.x.14.12.x.14.x.34.x.14.1234",
        "12347.12345.12347.34567.1.3.5.7.1.12567.3.1.12347.127.147.167.3.1.5.7", "1256.1456.36", "x.x.x.x", "pppp"};

    private final Random random;
    private final CalledTouches real = new CalledTouches();
    private final NaiveTouches naive = new NaiveTouches();
    private final StringBuilder told = new StringBuilder();
    private final boolean homesOften;
    private int calls = 0;

    private RandomRunsTest(long seed) {
        random = new Random(seed);
        homesOften = seed % 8 == 0;
    }

    public static void main(String[] args) {
        int runs = args.length > 0 ? Integer.parseInt(args[0]) : 400;
        for (int seed = 0; seed < runs; seed++) {
            new RandomRunsTest(seed).run();
        }
        System.out.println("RandomRunsTest: " + runs + " runs are as due");
    }

    private void run() {
        while (calls + MOST_CALLS_OF_A_STEP <= CALLS) {
            int kind = random.nextInt(20);
            if (kind < 5) {
                changeSomething();
            } else if (kind < 8) {
                writeSomething();
            } else {
                lookAtSomething();
            }
        }
    }

    private void check(String call, double got, double due) {
        calls++;
        told.append(call).append(" = ").append(due).append('\n');
        if (got != due) {
            System.out.println(told + "but the last one answered " + got);
            System.exit(1);
        }
    }

    /** Mostly from one below the range to one above it, now and then far outside. */
    private int pick(int least, int most) {
        int far = random.nextInt(80);
        if (far < 2) {
            return far == 0 ? Integer.MIN_VALUE : Integer.MAX_VALUE;
        }
        return least - 1 + random.nextInt(most - least + 3);
    }

    private void changeSomething() {
        int kind = pick(0, 2);
        int number;
        switch (random.nextInt(12)) {
            case 0:
                number = pick(4, 7);
                if (random.nextInt(3) == 0) {
                    check("bells(" + number + ")", real.bells(number), naive.bells(number));
                }
                break;
            case 1:
                number = random.nextInt(40) == 0 ? pick(0, 127) : random.nextInt(130) - 1;
                check("call(" + kind + ", " + number + ")", real.call(kind, number), naive.call(kind, number));
                break;
            case 2:
                number = pick(0, naive.count(2));
                if (random.nextInt(2) == 0) {
                    check("cut(" + number + ")", real.cut(number), naive.cut(number));
                }
                break;
            case 3:
                check("undo()", real.undo(), naive.undo());
                break;
            case 4:
                check("save()", real.save(), naive.save());
                break;
            case 5:
                if (random.nextInt(3) == 0) {
                    check("restore()", real.restore(), naive.restore());
                }
                break;
            case 6:
                check("method()", real.method(), naive.method());
                break;
            case 7:
                check("touch()", real.touch(), naive.touch());
                break;
            default:
                check("add(" + kind + ")", real.add(kind), naive.add(kind));
                break;
        }
    }

    private void writeSomething() {
        if (random.nextInt(3) == 0) {
            check("clear()", real.clear(), naive.clear());
        }
        String text = random.nextInt(4) == 0 ? scrap() : TEXTS[random.nextInt(TEXTS.length)];
        for (char sign : text.toCharArray()) {
            check("append(" + (int) sign + ")", real.append(sign), naive.append(sign));
        }
        for (int way = -1; way <= 2; way++) {
            check("fault(" + way + ")", real.fault(way), naive.fault(way));
        }
        if (random.nextInt(2) == 0) {
            check("method()", real.method(), naive.method());
            check("touch()", real.touch(), naive.touch());
        }
    }

    private String scrap() {
        String signs = "1234567890x..pbs!~";
        StringBuilder scrap = new StringBuilder();
        for (int i = random.nextInt(6); i >= 0; i--) {
            scrap.append(signs.charAt(random.nextInt(signs.length())));
        }
        return scrap.toString();
    }

    private void lookAtSomething() {
        int row = random.nextInt(8) == 0 ? pick(0, naive.count(3)) : random.nextInt(naive.count(3) + 1);
        int bell = pick(1, naive.count(0));
        int place = pick(1, naive.count(0));
        int lead = pick(0, naive.count(2) - 1);
        int what = pick(0, 15);
        int kind = pick(0, 2);
        switch (random.nextInt(10)) {
            case 0:
                check("bell(" + row + ", " + place + ")", real.bell(row, place), naive.bell(row, place));
                break;
            case 1:
                int change = pick(0, naive.count(1));
                check("change(" + lead + ", " + change + ")", real.change(lead, change), naive.change(lead, change));
                break;
            case 2:
                what = pick(0, 5);
                if (what != 5 || homesOften) {
                    check("row(" + row + ", " + what + ")", real.row(row, what), naive.row(row, what));
                }
                break;
            case 3:
                what = pick(0, 4);
                check("path(" + bell + ", " + what + ")", real.path(bell, what), naive.path(bell, what));
                break;
            case 4:
                check("blows(" + bell + ", " + place + ")", real.blows(bell, place), naive.blows(bell, place));
                break;
            case 5:
                check("music()", real.music(), naive.music());
                break;
            case 6:
                what = pick(0, 2);
                check("ifCalled(" + lead + ", " + kind + ", " + what + ")", real.ifCalled(lead, kind, what),
                    naive.ifCalled(lead, kind, what));
                break;
            case 7:
                check("best()", real.best(), naive.best());
                break;
            case 8:
                if (homesOften) {
                    int way = pick(0, 1);
                    check("home(" + way + ")", real.home(way), naive.home(way));
                    int index = pick(0, 6);
                    check("homeCall(" + index + ")", real.homeCall(index), naive.homeCall(index));
                }
                break;
            default:
                check("count(" + what + ")", real.count(what), naive.count(what));
                break;
        }
    }
}
