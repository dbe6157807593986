import java.util.Arrays;

/** Touches of ringing on 4 to 7 bells: a method, its calls, and what the rows of a touch tell. */
public final class CalledTouches {
    public static final int INVALID_ARGUMENT = -1;
    public static final int NOT_POSSIBLE = -2;
    public static final int LIMIT_REACHED = -3;
    public static final int NOT_FOUND = -4;

    private static final int FEWEST_BELLS = 4;
    private static final int MOST_BELLS = 7;
    private static final int FIRST_BELLS = 6;
    private static final int MOST_CHANGES = 20;
    private static final int MOST_LEADS = 16;
    private static final int MOST_SIGNS = 80;
    private static final int MOST_STATES = 4;
    private static final int KINDS = 3;
    /** One lead more than a touch may have, for the lead that might be added, and the row 0. */
    private static final int MOST_ROWS = (MOST_LEADS + 1) * MOST_CHANGES + 1;
    /** The factorial of 7: all the orders in which the bells can ring. */
    private static final int MOST_ORDERS = 5040;

    private static final int FIRST_SIGN = 33;
    private static final int LAST_SIGN = 126;

    private static final int PLAIN = 0;
    private static final int BOB = 1;
    private static final int SINGLE = 2;

    private final Touch now = new Touch();
    private final Touch trial = new Touch();
    private final Touch snapshot = new Touch();
    private boolean hasSnapshot;
    private final History history = new History();
    private final Pad pad = new Pad();
    private final MethodReader reader = new MethodReader();
    private final Ringing ringing = new Ringing();
    private final Homeward homeward = new Homeward();

    public CalledTouches() {
        begin(FIRST_BELLS);
    }

    // ---- bells, method, touch

    public int bells(int bells) {
        if (!isWithin(bells, FEWEST_BELLS, MOST_BELLS)) {
            return INVALID_ARGUMENT;
        }
        int before = now.bells;
        history.record(now);
        begin(bells);
        return before;
    }

    public int method() {
        if (reader.read(pad.signs, pad.length, now.bells) != NOT_FOUND) {
            return NOT_POSSIBLE;
        }
        history.record(now);
        now.takeMethod(reader);
        pad.length = 0;
        return now.changes;
    }

    public int call(int kind, int places) {
        if (!isWithin(kind, BOB, SINGLE) || !Places.areRight(places, now.bells)) {
            return INVALID_ARGUMENT;
        }
        history.record(now);
        int before;
        if (kind == BOB) {
            before = now.bob;
            now.bob = places;
        } else {
            before = now.single;
            now.single = places;
        }
        return before;
    }

    public int touch() {
        if (pad.faultAsTouch() != NOT_FOUND) {
            return NOT_POSSIBLE;
        }
        history.record(now);
        now.leads = 0;
        for (int i = 0; i < pad.length && i < pad.signs.length; i++) {
            now.addLead(Pad.kindOf(pad.signs[i]));
        }
        pad.length = 0;
        return now.leads;
    }

    public int add(int kind) {
        if (!isWithin(kind, PLAIN, SINGLE)) {
            return INVALID_ARGUMENT;
        }
        if (now.leads >= MOST_LEADS) {
            return LIMIT_REACHED;
        }
        history.record(now);
        now.addLead(kind);
        return now.leads;
    }

    public int cut(int leads) {
        if (!isWithin(leads, 0, now.leads)) {
            return INVALID_ARGUMENT;
        }
        int before = now.leads;
        history.record(now);
        now.leads = leads;
        return before;
    }

    // ---- texts

    public int append(int code) {
        if (!isWithin(code, FIRST_SIGN, LAST_SIGN)) {
            return INVALID_ARGUMENT;
        }
        if (pad.length >= pad.signs.length) {
            return LIMIT_REACHED;
        }
        pad.put((char) code);
        return pad.length;
    }

    public int clear() {
        int before = pad.length;
        pad.length = 0;
        return before;
    }

    public int fault(int way) {
        if (way == 0) {
            return reader.read(pad.signs, pad.length, now.bells);
        }
        if (way == 1) {
            return pad.faultAsTouch();
        }
        return INVALID_ARGUMENT;
    }

    // ---- looks; nothing is changed

    public int bell(int row, int place) {
        if (!isWithin(row, 0, now.lastRow()) || !isBell(place)) {
            return INVALID_ARGUMENT;
        }
        ringing.ring(now);
        return Row.bellAt(ringing.rowAt(row), place);
    }

    public int change(int lead, int change) {
        if (!isWithin(lead, -1, now.leads - 1) || change < 0) {
            return INVALID_ARGUMENT;
        }
        if (change >= now.changes) {
            return NOT_FOUND;
        }
        return now.placesMade(now.kindOfLead(lead), change);
    }

    public int row(int row, int what) {
        if (!isWithin(row, 0, now.lastRow()) || !isWithin(what, 0, 5)) {
            return INVALID_ARGUMENT;
        }
        ringing.ring(now);
        int order = ringing.rowAt(row);
        switch (what) {
            case 0:
                return Row.signByPairs(order, now.bells);
            case 1:
                return Row.signByCycles(order, now.bells);
            case 2:
                return Row.soundsWell(order, now.bells) ? 1 : 0;
            case 3:
                return Row.bellsInPlace(order, now.bells);
            case 4:
                return ringing.firstLike(row);
            default:
                homeward.learn(now);
                return homeward.leadsFrom(order);
        }
    }

    public int path(int bell, int what) {
        if (!isBell(bell) || !isWithin(what, 0, 4)) {
            return INVALID_ARGUMENT;
        }
        ringing.ring(now);
        switch (what) {
            case 0:
                return ringing.dodges(bell);
            case 1:
                return ringing.firstDodge(bell);
            case 2:
                return ringing.blowsAt(bell, 1);
            case 3:
                return ringing.stays(bell);
            default:
                return ringing.placeIn(ringing.last, bell);
        }
    }

    public int blows(int bell, int place) {
        if (!isBell(bell) || !isBell(place)) {
            return INVALID_ARGUMENT;
        }
        ringing.ring(now);
        return ringing.blowsAt(bell, place);
    }

    public int count(int what) {
        switch (what) {
            case 0:
                return now.bells;
            case 1:
                return now.changes;
            case 2:
                return now.leads;
            case 3:
                return now.lastRow();
            case 10:
                return now.calledLeads();
            case 11:
                return now.plainCourse();
            case 12:
                return now.bob;
            case 13:
                return now.single;
            case 14:
                return pad.length;
            case 15:
                return history.size;
            default:
                return isWithin(what, 4, 9) ? countRows(what) : INVALID_ARGUMENT;
        }
    }

    public double music() {
        ringing.ring(now);
        if (ringing.last <= 0) {
            return 0.0;
        }
        return (double) ringing.wellSounding() / (double) ringing.last;
    }

    // ---- leads home, what would be; nothing is changed

    public int home(int way) {
        if (!isWithin(way, 0, 1)) {
            return INVALID_ARGUMENT;
        }
        int order = lastOrder();
        homeward.learn(now);
        return way == 0 ? homeward.leadsFrom(order) : homeward.leadsBySearch(order);
    }

    public int homeCall(int index) {
        if (index < 0) {
            return INVALID_ARGUMENT;
        }
        int order = lastOrder();
        homeward.learn(now);
        return homeward.callAt(order, index);
    }

    public int ifCalled(int lead, int kind, int what) {
        if (!isWithin(lead, 0, now.leads - 1) || !isWithin(kind, PLAIN, SINGLE) || !isWithin(what, 0, 2)) {
            return INVALID_ARGUMENT;
        }
        trial.become(now);
        trial.callLead(lead, kind);
        ringing.ring(trial);
        switch (what) {
            case 0:
                return ringing.isTrue() ? 1 : 0;
            case 1:
                return ringing.comesRound();
            default:
                return ringing.wellSounding();
        }
    }

    public int best() {
        int bestKind = PLAIN;
        int mostRows = -1;
        for (int kind = PLAIN; kind <= SINGLE; kind++) {
            trial.become(now);
            trial.addLead(kind);
            ringing.ring(trial);
            int rows = ringing.differentRows();
            if (rows > mostRows) {
                mostRows = rows;
                bestKind = kind;
            }
        }
        return bestKind;
    }

    // ---- history, snapshot

    public int undo() {
        if (history.size <= 0) {
            return NOT_POSSIBLE;
        }
        history.takeBack(now);
        return history.size;
    }

    public int save() {
        snapshot.become(now);
        hasSnapshot = true;
        return now.leads;
    }

    public int restore() {
        if (!hasSnapshot) {
            return NOT_POSSIBLE;
        }
        history.record(now);
        now.become(snapshot);
        return now.leads;
    }

    private void begin(int bells) {
        now.bells = bells;
        now.leads = 0;
        char[] bob = Start.bob(bells).toCharArray();
        char[] single = Start.single(bells).toCharArray();
        char[] lead = Start.lead(bells).toCharArray();
        reader.read(bob, bob.length, bells);
        now.bob = reader.places[0];
        reader.read(single, single.length, bells);
        now.single = reader.places[0];
        reader.read(lead, lead.length, bells);
        now.takeMethod(reader);
    }

    private int countRows(int what) {
        ringing.ring(now);
        switch (what) {
            case 4:
                return ringing.comesRound();
            case 5:
                return ringing.isTrue() ? 1 : 0;
            case 6:
                return ringing.firstRepeat();
            case 7:
                return ringing.differentRows();
            case 8:
                return ringing.falsePairs();
            default:
                return ringing.wellSounding();
        }
    }

    private int lastOrder() {
        ringing.ring(now);
        return ringing.rowAt(ringing.last);
    }

    private boolean isBell(int number) {
        return isWithin(number, 1, now.bells);
    }

    private static boolean isWithin(int number, int least, int most) {
        return number >= least && number <= most;
    }

    /** What is rung at the beginning, written as the document writes it. */
    private static final class Start {
        static String lead(int bells) {
            switch (bells) {
                case 4:
                    return "x.14.x.14.x.14.x.12";
                case 5:
                    return "5.1.5.1.5.1.5.1.5.125";
                case 6:
                    return "x.16.x.16.x.16.x.16.x.16.x.12";
                default:
                    return "7.1.7.1.7.1.7.1.7.1.7.1.7.127";
            }
        }

        static String bob(int bells) {
            switch (bells) {
                case 5:
                    return "145";
                case 7:
                    return "147";
                default:
                    return "14";
            }
        }

        static String single(int bells) {
            switch (bells) {
                case 4:
                    return "34";
                case 5:
                    return "123";
                case 6:
                    return "1234";
                default:
                    return "12347";
            }
        }
    }

    /** Changes, told by the places that are made, as bits. */
    private static final class Places {
        static int bit(int place) {
            return 1 << (place - 1);
        }

        static boolean has(int made, int place) {
            return (made & bit(place)) != 0;
        }

        static boolean areRight(int made, int bells) {
            int all = bit(bells + 1) - 1;
            if (made < 0 || made >= all) {
                return false;
            }
            int notMade = 0;
            for (int place = 1; place <= bells; place++) {
                if (!has(made, place)) {
                    notMade++;
                } else if (notMade % 2 != 0) {
                    return false;
                }
            }
            return notMade % 2 == 0;
        }
    }

    /** Rows packed into an int, three bits a place, so that ringing makes no objects. */
    private static final class Row {
        private static final int BITS = 3;
        private static final int MASK = 7;

        static int rounds(int bells) {
            int row = 0;
            for (int place = 1; place <= bells; place++) {
                row = put(row, place, place);
            }
            return row;
        }

        static int bellAt(int row, int place) {
            return (row >> (BITS * (place - 1))) & MASK;
        }

        private static int put(int row, int place, int bell) {
            return row | (bell << (BITS * (place - 1)));
        }

        static int placeOf(int row, int bell, int bells) {
            for (int place = 1; place < bells; place++) {
                if (bellAt(row, place) == bell) {
                    return place;
                }
            }
            return bells;
        }

        static int behindChange(int row, int made, int bells) {
            int next = 0;
            int place = 1;
            while (place <= bells) {
                if (place == bells || Places.has(made, place)) {
                    next = put(next, place, bellAt(row, place));
                    place++;
                } else {
                    next = put(next, place, bellAt(row, place + 1));
                    next = put(next, place + 1, bellAt(row, place));
                    place += 2;
                }
            }
            return next;
        }

        /** A lead is told by the row that it makes of rounds: where each bell comes from. */
        static int behindLead(int row, int lead, int bells) {
            int next = 0;
            for (int place = 1; place <= bells; place++) {
                next = put(next, place, bellAt(row, bellAt(lead, place)));
            }
            return next;
        }

        static int backwards(int lead, int bells) {
            int back = 0;
            for (int place = 1; place <= bells; place++) {
                back = put(back, bellAt(lead, place), place);
            }
            return back;
        }

        /** Numbers the rows of so many bells from 0 on without a gap, so that tables stay small. */
        static int rank(int row, int bells) {
            int rank = 0;
            int used = 0;
            for (int place = 1; place <= bells; place++) {
                int bell = bellAt(row, place);
                int lesser = Places.bit(bell) - 1;
                int unusedLesser = bell - 1 - Integer.bitCount(used & lesser);
                rank = rank * (bells - place + 1) + unusedLesser;
                used |= Places.bit(bell);
            }
            return rank;
        }

        static int signByPairs(int row, int bells) {
            int pairs = 0;
            for (int ahead = 1; ahead <= bells; ahead++) {
                for (int behind = ahead + 1; behind <= bells; behind++) {
                    if (bellAt(row, ahead) > bellAt(row, behind)) {
                        pairs++;
                    }
                }
            }
            return pairs % 2;
        }

        static int signByCycles(int row, int bells) {
            int seen = 0;
            int swaps = 0;
            for (int start = 1; start <= bells; start++) {
                int place = bellAt(row, start);
                for (int step = 0; step < bells && place != start && !Places.has(seen, start); step++) {
                    seen |= Places.bit(place);
                    swaps++;
                    place = bellAt(row, place);
                }
            }
            return swaps % 2;
        }

        static boolean soundsWell(int row, int bells) {
            int third = bellAt(row, bells - 2);
            int second = bellAt(row, bells - 1);
            return third < second && second < bellAt(row, bells);
        }

        static int bellsInPlace(int row, int bells) {
            int inPlace = 0;
            for (int place = 1; place <= bells; place++) {
                if (bellAt(row, place) == place) {
                    inPlace++;
                }
            }
            return inPlace;
        }
    }

    /** All that the history and the snapshot keep: bells, method, calls, touch. */
    private static final class Touch {
        private int bells;
        private int changes;
        private int bob;
        private int single;
        private int leads;
        private final int[] places = new int[MOST_CHANGES];
        /** One more than a touch may have, for the lead that might be added to a full one. */
        private final int[] kinds = new int[MOST_LEADS + 1];

        void become(Touch other) {
            bells = other.bells;
            changes = other.changes;
            bob = other.bob;
            single = other.single;
            leads = other.leads;
            System.arraycopy(other.places, 0, places, 0, places.length);
            System.arraycopy(other.kinds, 0, kinds, 0, kinds.length);
        }

        void takeMethod(MethodReader reader) {
            changes = reader.changes;
            System.arraycopy(reader.places, 0, places, 0, places.length);
        }

        void addLead(int kind) {
            if (leads >= 0 && leads < kinds.length) {
                kinds[leads] = kind;
                leads++;
            }
        }

        void callLead(int lead, int kind) {
            if (lead >= 0 && lead < kinds.length) {
                kinds[lead] = kind;
            }
        }

        int kindOfLead(int lead) {
            return lead >= 0 && lead < kinds.length ? kinds[lead] : PLAIN;
        }

        int lastRow() {
            return leads * changes;
        }

        int placesMade(int kind, int change) {
            if (change == changes - 1 && kind == BOB) {
                return bob;
            }
            if (change == changes - 1 && kind == SINGLE) {
                return single;
            }
            return change >= 0 && change < places.length ? places[change] : 0;
        }

        int calledLeads() {
            int called = 0;
            for (int lead = 0; lead < leads; lead++) {
                if (kindOfLead(lead) != PLAIN) {
                    called++;
                }
            }
            return called;
        }

        int roundsBehindLead(int kind) {
            int row = Row.rounds(bells);
            for (int change = 0; change < changes; change++) {
                row = Row.behindChange(row, placesMade(kind, change), bells);
            }
            return row;
        }

        int plainCourse() {
            int rounds = Row.rounds(bells);
            int lead = roundsBehindLead(PLAIN);
            int row = lead;
            int rung = 1;
            while (row != rounds && rung < MOST_ORDERS) {
                row = Row.behindLead(row, lead, bells);
                rung++;
            }
            return rung;
        }
    }

    /** The latest states, the oldest one first; the states are made once and used again. */
    private static final class History {
        private final Touch[] states = new Touch[MOST_STATES];
        private int size;

        History() {
            for (int i = 0; i < states.length; i++) {
                states[i] = new Touch();
            }
        }

        void record(Touch touch) {
            if (size >= states.length) {
                dropOldest();
            }
            if (size >= 0 && size < states.length) {
                states[size].become(touch);
                size++;
            }
        }

        void takeBack(Touch touch) {
            if (size > 0 && size <= states.length) {
                size--;
                touch.become(states[size]);
            }
        }

        private void dropOldest() {
            Touch oldest = states[0];
            for (int i = 1; i < states.length; i++) {
                states[i - 1] = states[i];
            }
            states[states.length - 1] = oldest;
            size = states.length - 1;
        }
    }

    /** The characters that a method or a touch is read from. */
    private static final class Pad {
        private final char[] signs = new char[MOST_SIGNS];
        private int length;

        void put(char sign) {
            if (length >= 0 && length < signs.length) {
                signs[length] = sign;
                length++;
            }
        }

        int faultAsTouch() {
            for (int i = 0; i < length && i < signs.length; i++) {
                if (i >= MOST_LEADS || kindOf(signs[i]) == NOT_FOUND) {
                    return i;
                }
            }
            return length == 0 ? length : NOT_FOUND;
        }

        static int kindOf(char sign) {
            switch (sign) {
                case 'p':
                    return PLAIN;
                case 'b':
                    return BOB;
                case 's':
                    return SINGLE;
                default:
                    return NOT_FOUND;
            }
        }
    }

    /** Reads a method; what was read stays here until it is taken over. */
    private static final class MethodReader {
        private final int[] places = new int[MOST_CHANGES];
        private int changes;
        private int made;
        private int lastPlace;
        private boolean crossed;

        /** Returns the fault of the text, NOT_FOUND if it has none. */
        int read(char[] text, int length, int bells) {
            changes = 0;
            beginChange();
            for (int i = 0; i < length && i < text.length; i++) {
                if (!accepts(text[i], bells)) {
                    return i;
                }
            }
            if (!isChangeRight(bells)) {
                return length;
            }
            keepChange();
            return NOT_FOUND;
        }

        private boolean accepts(char sign, int bells) {
            if (sign == '.') {
                return acceptsDot(bells);
            }
            if (sign == 'x') {
                return acceptsCross(bells);
            }
            return acceptsPlace(sign - '0', bells);
        }

        private boolean acceptsDot(int bells) {
            // behind a dot another change must follow, which the last one that is allowed leaves no room for
            if (changes >= MOST_CHANGES - 1 || !isChangeRight(bells)) {
                return false;
            }
            keepChange();
            return true;
        }

        private boolean acceptsCross(int bells) {
            if (crossed || lastPlace > 0 || bells % 2 != 0) {
                return false;
            }
            crossed = true;
            return true;
        }

        /** Refuses an odd gap at once, so that behind the last digit only the places after it are to be looked at. */
        private boolean acceptsPlace(int place, int bells) {
            if (crossed || place <= lastPlace || place > bells || (place - lastPlace) % 2 == 0) {
                return false;
            }
            int more = made | Places.bit(place);
            boolean isFull = more == Places.bit(place + 1) - 1;
            // a single place behind it would have to be made too, and none would be left
            if (isFull && place >= bells - 1) {
                return false;
            }
            made = more;
            lastPlace = place;
            return true;
        }

        private boolean isChangeRight(int bells) {
            return crossed || (lastPlace > 0 && (bells - lastPlace) % 2 == 0);
        }

        private void keepChange() {
            if (changes >= 0 && changes < places.length) {
                places[changes] = made;
                changes++;
            }
            beginChange();
        }

        private void beginChange() {
            made = 0;
            lastPlace = 0;
            crossed = false;
        }
    }

    /** The rows of a touch. */
    private static final class Ringing {
        private final int[] rows = new int[MOST_ROWS];
        /** For each row from 1 on the first row from 1 on that is the same. */
        private final int[] firsts = new int[MOST_ROWS];
        private final int[] firstOfRank = new int[MOST_ORDERS];
        private int bells;
        private int changes;
        private int leads;
        private int last;

        void ring(Touch touch) {
            bells = touch.bells;
            changes = touch.changes;
            leads = touch.leads;
            int row = Row.rounds(bells);
            rows[0] = row;
            last = 0;
            for (int lead = 0; lead < leads; lead++) {
                int kind = touch.kindOfLead(lead);
                for (int change = 0; change < changes; change++) {
                    row = Row.behindChange(row, touch.placesMade(kind, change), bells);
                    keep(row);
                }
            }
            findFirsts();
        }

        private void keep(int row) {
            if (last + 1 < rows.length) {
                last++;
                rows[last] = row;
            }
        }

        private void findFirsts() {
            // only the entries that are read below are emptied: the table is larger than any touch
            for (int k = 1; k <= last; k++) {
                int rank = Row.rank(rowAt(k), bells);
                firsts[k] = rank;
                if (rank >= 0 && rank < firstOfRank.length) {
                    firstOfRank[rank] = 0;
                }
            }
            for (int k = 1; k <= last; k++) {
                firsts[k] = firstWithRank(firsts[k], k);
            }
        }

        private int firstWithRank(int rank, int row) {
            if (rank < 0 || rank >= firstOfRank.length) {
                return row;
            }
            if (firstOfRank[rank] == 0) {
                firstOfRank[rank] = row;
            }
            return firstOfRank[rank];
        }

        int rowAt(int k) {
            return k >= 0 && k < rows.length ? rows[k] : 0;
        }

        int placeIn(int k, int bell) {
            return Row.placeOf(rowAt(k), bell, bells);
        }

        private boolean isFirst(int k) {
            return k >= 0 && k < firsts.length && firsts[k] == k;
        }

        int firstLike(int k) {
            if (rowAt(k) == rows[0]) {
                return 0;
            }
            return k >= 0 && k < firsts.length ? firsts[k] : k;
        }

        int comesRound() {
            for (int k = 1; k <= last; k++) {
                if (rowAt(k) == rows[0]) {
                    return k;
                }
            }
            return NOT_FOUND;
        }

        int firstRepeat() {
            for (int k = 1; k <= last; k++) {
                if (!isFirst(k)) {
                    return k;
                }
            }
            return NOT_FOUND;
        }

        boolean isTrue() {
            return firstRepeat() == NOT_FOUND;
        }

        int differentRows() {
            int different = 0;
            for (int k = 1; k <= last; k++) {
                if (isFirst(k)) {
                    different++;
                }
            }
            return different;
        }

        int wellSounding() {
            int sounding = 0;
            for (int k = 1; k <= last; k++) {
                if (Row.soundsWell(rowAt(k), bells)) {
                    sounding++;
                }
            }
            return sounding;
        }

        int falsePairs() {
            int pairs = 0;
            for (int lead = 0; lead < leads; lead++) {
                for (int later = lead + 1; later < leads; later++) {
                    if (areFalse(lead, later)) {
                        pairs++;
                    }
                }
            }
            return pairs;
        }

        private boolean areFalse(int lead, int other) {
            for (int i = 1; i <= changes; i++) {
                for (int j = 1; j <= changes; j++) {
                    if (rowAt(lead * changes + i) == rowAt(other * changes + j)) {
                        return true;
                    }
                }
            }
            return false;
        }

        private boolean dodgesAt(int k, int bell) {
            int here = placeIn(k, bell);
            int there = placeIn(k + 1, bell);
            return here != there && placeIn(k + 2, bell) == here && placeIn(k + 3, bell) == there;
        }

        int dodges(int bell) {
            int dodges = 0;
            for (int k = 0; k + 3 <= last; k++) {
                if (dodgesAt(k, bell)) {
                    dodges++;
                }
            }
            return dodges;
        }

        int firstDodge(int bell) {
            for (int k = 0; k + 3 <= last; k++) {
                if (dodgesAt(k, bell)) {
                    return k;
                }
            }
            return NOT_FOUND;
        }

        int stays(int bell) {
            int stays = 0;
            for (int k = 1; k <= last; k++) {
                if (placeIn(k, bell) == placeIn(k - 1, bell)) {
                    stays++;
                }
            }
            return stays;
        }

        int blowsAt(int bell, int place) {
            int blows = 0;
            for (int k = 1; k <= last; k++) {
                if (Row.bellAt(rowAt(k), place) == bell) {
                    blows++;
                }
            }
            return blows;
        }
    }

    /** Rows that are reached from one row by leads, each by the fewest. */
    private static final class Spread {
        private final int[] fewest = new int[MOST_ORDERS];
        private final int[] reached = new int[MOST_ORDERS];
        private int bells;
        private int size;

        /** Spreads until the goal is met; 0, which is no row, is never met. */
        void from(int start, int goal, int[] leads, int bells) {
            this.bells = bells;
            size = 0;
            Arrays.fill(fewest, NOT_FOUND);
            reach(start, 0);
            for (int i = 0; i < size && i < reached.length; i++) {
                int row = reached[i];
                if (row == goal) {
                    return;
                }
                int more = fewestTo(row) + 1;
                for (int kind = 0; kind < leads.length; kind++) {
                    reach(Row.behindLead(row, leads[kind], bells), more);
                }
            }
        }

        private void reach(int row, int leads) {
            int rank = Row.rank(row, bells);
            if (rank < 0 || rank >= fewest.length || fewest[rank] != NOT_FOUND) {
                return;
            }
            fewest[rank] = leads;
            if (size >= 0 && size < reached.length) {
                reached[size] = row;
                size++;
            }
        }

        int fewestTo(int row) {
            int rank = Row.rank(row, bells);
            return rank >= 0 && rank < fewest.length ? fewest[rank] : NOT_FOUND;
        }
    }

    /** The ways home by the leads of a method. */
    private static final class Homeward {
        private final Spread fromRounds = new Spread();
        private final Spread fromRow = new Spread();
        private final int[] leads = new int[KINDS];
        private final int[] leadsBack = new int[KINDS];
        private int bells;

        /** Spreads from rounds anew only if the leads are others: they alone tell the ways home. */
        void learn(Touch touch) {
            boolean known = bells == touch.bells;
            bells = touch.bells;
            for (int kind = 0; kind < leads.length && kind < leadsBack.length; kind++) {
                int lead = touch.roundsBehindLead(kind);
                known = known && lead == leads[kind];
                leads[kind] = lead;
                leadsBack[kind] = Row.backwards(lead, bells);
            }
            if (!known) {
                fromRounds.from(Row.rounds(bells), 0, leadsBack, bells);
            }
        }

        int leadsFrom(int row) {
            return fromRounds.fewestTo(row);
        }

        int leadsBySearch(int row) {
            int rounds = Row.rounds(bells);
            fromRow.from(row, rounds, leads, bells);
            return fromRow.fewestTo(rounds);
        }

        int callAt(int row, int index) {
            int needed = leadsFrom(row);
            if (index < 0 || index >= needed) {
                return NOT_FOUND;
            }
            int at = row;
            for (int i = 0; i < index; i++) {
                at = behind(at, callFrom(at));
            }
            return callFrom(at);
        }

        private int callFrom(int row) {
            int needed = leadsFrom(row);
            for (int kind = 0; kind < leads.length; kind++) {
                if (leadsFrom(behind(row, kind)) == needed - 1) {
                    return kind;
                }
            }
            return NOT_FOUND;
        }

        private int behind(int row, int kind) {
            return kind >= 0 && kind < leads.length ? Row.behindLead(row, leads[kind], bells) : row;
        }
    }
}
