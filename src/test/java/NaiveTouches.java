import java.util.ArrayDeque;
import java.util.ArrayList;
import java.util.HashMap;
import java.util.HashSet;
import java.util.List;
import java.util.Map;
import java.util.Set;

/** The document told a second time, by lists and texts, to hold the answers of CalledTouches against. */
final class NaiveTouches {
    private record State(int n, List<Integer> method, int bob, int single, List<Integer> touch) {}

    private static final int BAD = -1;
    private static final int NOT_POSSIBLE = -2;
    private static final int LIMIT = -3;
    private static final int NONE = -4;

    private State now = beginning(6);
    private State snapshot = null;
    private final List<State> history = new ArrayList<>();
    private String pad = "";

    private static State beginning(int n) {
        String[] texts = {"x.14.x.14.x.14.x.12", "5.1.5.1.5.1.5.1.5.125",
            "x.16.x.16.x.16.x.16.x.16.x.12", "7.1.7.1.7.1.7.1.7.1.7.1.7.127"};
        String[] bobs = {"14", "145", "14", "147"};
        String[] singles = {"34", "123", "1234", "12347"};
        return new State(n, bitsOfAll(texts[n - 4]), bits(bobs[n - 4]), bits(singles[n - 4]), List.of());
    }

    private static List<Integer> bitsOfAll(String text) {
        List<Integer> all = new ArrayList<>();
        for (String change : text.split("\\.")) {
            all.add(bits(change));
        }
        return all;
    }

    private static int bits(String change) {
        int bits = 0;
        for (char sign : change.toCharArray()) {
            if (sign != 'x') {
                bits += (int) Math.pow(2, sign - '1');
            }
        }
        return bits;
    }

    /** The right changes by their texts: those left of the places made in runs of even length. */
    private static Map<Integer, String> rightChanges(int n) {
        Map<Integer, String> right = new HashMap<>();
        for (int bits = 0; bits < (1 << n) - 1; bits++) {
            StringBuilder made = new StringBuilder();
            StringBuilder picture = new StringBuilder();
            for (int place = 1; place <= n; place++) {
                boolean stays = (bits & (1 << (place - 1))) != 0;
                picture.append(stays ? '|' : '-');
                if (stays) {
                    made.append(place);
                }
            }
            if (picture.toString().replace("--", "").indexOf('-') < 0) {
                right.put(bits, bits == 0 ? "x" : made.toString());
            }
        }
        return right;
    }

    private void record() {
        history.add(now);
        if (history.size() == 5) {
            history.remove(0);
        }
    }

    int bells(int n) {
        if (n < 4 || n > 7) {
            return BAD;
        }
        int before = now.n;
        record();
        now = beginning(n);
        return before;
    }

    int method() {
        if (fault(0) != NONE) {
            return NOT_POSSIBLE;
        }
        record();
        now = new State(now.n, bitsOfAll(pad), now.bob, now.single, now.touch);
        pad = "";
        return now.method.size();
    }

    int call(int kind, int places) {
        if (kind != 1 && kind != 2 || !rightChanges(now.n).containsKey(places)) {
            return BAD;
        }
        record();
        State was = now;
        now = kind == 1 ? new State(was.n, was.method, places, was.single, was.touch)
            : new State(was.n, was.method, was.bob, places, was.touch);
        return kind == 1 ? was.bob : was.single;
    }

    private void ringLeads(List<Integer> leads) {
        record();
        now = new State(now.n, now.method, now.bob, now.single, leads);
    }

    int touch() {
        if (fault(1) != NONE) {
            return NOT_POSSIBLE;
        }
        List<Integer> leads = new ArrayList<>();
        for (char sign : pad.toCharArray()) {
            leads.add("pbs".indexOf(sign));
        }
        ringLeads(leads);
        pad = "";
        return leads.size();
    }

    private static List<Integer> plus(List<Integer> leads, int kind) {
        List<Integer> more = new ArrayList<>(leads);
        more.add(kind);
        return more;
    }

    int add(int kind) {
        if (kind < 0 || kind > 2) {
            return BAD;
        }
        if (now.touch.size() == 16) {
            return LIMIT;
        }
        ringLeads(plus(now.touch, kind));
        return now.touch.size();
    }

    int cut(int leads) {
        int before = now.touch.size();
        if (leads < 0 || leads > before) {
            return BAD;
        }
        ringLeads(new ArrayList<>(now.touch.subList(0, leads)));
        return before;
    }

    int append(int code) {
        if (code < 33 || code > 126) {
            return BAD;
        }
        if (pad.length() == 80) {
            return LIMIT;
        }
        pad += (char) code;
        return pad.length();
    }

    int clear() {
        int before = pad.length();
        pad = "";
        return before;
    }

    int fault(int way) {
        if (way != 0 && way != 1) {
            return BAD;
        }
        for (int i = 0; i < pad.length(); i++) {
            String head = pad.substring(0, i + 1);
            if (way == 0 ? !beginsMethod(head) : !head.matches("[pbs]{1,16}")) {
                return i;
            }
        }
        boolean complete = way == 0 ? isMethod(pad) : !pad.isEmpty();
        return complete ? NONE : pad.length();
    }

    private boolean isMethod(String text) {
        String[] changes = text.split("\\.", -1);
        for (String change : changes) {
            if (!rightChanges(now.n).containsValue(change)) {
                return false;
            }
        }
        return changes.length <= 20;
    }

    private boolean beginsMethod(String text) {
        int dot = text.lastIndexOf('.');
        if (dot >= 0 && !isMethod(text.substring(0, dot)) || text.split("\\.", -1).length > 20) {
            return false;
        }
        String last = text.substring(dot + 1);
        return rightChanges(now.n).values().stream().anyMatch(change -> change.startsWith(last));
    }

    private static String rounds(int n) {
        return "1234567".substring(0, n);
    }

    private static String changed(String row, int made) {
        char[] bells = row.toCharArray();
        int open = -1;
        for (int i = 0; i < bells.length; i++) {
            if ((made >> i & 1) != 0) {
                continue;
            }
            if (open < 0) {
                open = i;
            } else {
                char bell = bells[open];
                bells[open] = bells[i];
                bells[i] = bell;
                open = -1;
            }
        }
        return new String(bells);
    }

    private List<Integer> leadOf(int kind) {
        List<Integer> lead = new ArrayList<>(now.method);
        if (kind > 0) {
            lead.set(lead.size() - 1, kind == 1 ? now.bob : now.single);
        }
        return lead;
    }

    private String led(String row, int kind) {
        for (int made : leadOf(kind)) {
            row = changed(row, made);
        }
        return row;
    }

    private List<String> rows(List<Integer> touch) {
        List<String> rows = new ArrayList<>();
        String row = rounds(now.n);
        rows.add(row);
        for (int kind : touch) {
            for (int made : leadOf(kind)) {
                row = changed(row, made);
                rows.add(row);
            }
        }
        return rows;
    }

    private List<String> rows() {
        return rows(now.touch);
    }

    private int last() {
        return now.touch.size() * now.method.size();
    }

    private boolean isBell(int number) {
        return number >= 1 && number <= now.n;
    }

    int bell(int row, int place) {
        return row < 0 || row > last() || !isBell(place) ? BAD : rows().get(row).charAt(place - 1) - '0';
    }

    int change(int lead, int change) {
        if (lead < -1 || lead >= now.touch.size() || change < 0) {
            return BAD;
        }
        return change >= now.method.size() ? NONE : leadOf(lead == -1 ? 0 : now.touch.get(lead)).get(change);
    }

    int row(int row, int what) {
        if (row < 0 || row > last() || what < 0 || what > 5) {
            return BAD;
        }
        String bells = rows().get(row);
        switch (what) {
            case 0:
            case 1:
                return sign(bells);
            case 2:
                return soundsWell(bells) ? 1 : 0;
            case 3:
                return (int) bells.chars().filter(bell -> bells.indexOf(bell) == bell - '1').count();
            case 4:
                return rows().indexOf(bells);
            default:
                return leadsHome(bells);
        }
    }

    /** Counts the swaps of neighbours that sort the row. */
    private static int sign(String row) {
        char[] bells = row.toCharArray();
        int sign = 0;
        for (int round = 0; round < bells.length; round++) {
            for (int i = 0; i + 1 < bells.length; i++) {
                if (bells[i] > bells[i + 1]) {
                    char bell = bells[i];
                    bells[i] = bells[i + 1];
                    bells[i + 1] = bell;
                    sign = 1 - sign;
                }
            }
        }
        return sign;
    }

    private static boolean soundsWell(String row) {
        String end = row.substring(row.length() - 3);
        return end.charAt(0) < end.charAt(1) && end.charAt(1) < end.charAt(2);
    }

    private int leadsHome(String row) {
        Map<String, Integer> fewest = new HashMap<>(Map.of(row, 0));
        ArrayDeque<String> queue = new ArrayDeque<>(List.of(row));
        while (!queue.isEmpty()) {
            String here = queue.remove();
            if (here.equals(rounds(now.n))) {
                return fewest.get(here);
            }
            for (int kind = 0; kind < 3; kind++) {
                String next = led(here, kind);
                if (fewest.putIfAbsent(next, fewest.get(here) + 1) == null) {
                    queue.add(next);
                }
            }
        }
        return NONE;
    }

    private List<Integer> placesOf(int bell) {
        List<Integer> places = new ArrayList<>();
        for (String row : rows()) {
            places.add(row.indexOf('0' + bell) + 1);
        }
        return places;
    }

    int path(int bell, int what) {
        if (!isBell(bell) || what < 0 || what > 4) {
            return BAD;
        }
        List<Integer> places = placesOf(bell);
        List<Integer> dodges = new ArrayList<>();
        for (int k = 0; k <= last() - 3; k++) {
            int here = places.get(k);
            int there = places.get(k + 1);
            if (here != there && places.subList(k, k + 4).equals(List.of(here, there, here, there))) {
                dodges.add(k);
            }
        }
        int stays = 0;
        for (int k = 0; k < last(); k++) {
            stays += places.get(k).equals(places.get(k + 1)) ? 1 : 0;
        }
        switch (what) {
            case 0:
                return dodges.size();
            case 1:
                return dodges.isEmpty() ? NONE : dodges.get(0);
            case 2:
                return blows(bell, 1);
            case 3:
                return stays;
            default:
                return places.get(last());
        }
    }

    int blows(int bell, int place) {
        if (!isBell(bell) || !isBell(place)) {
            return BAD;
        }
        List<Integer> places = placesOf(bell);
        return (int) places.subList(1, places.size()).stream().filter(p -> p == place).count();
    }

    private List<String> rung(List<Integer> touch) {
        List<String> rows = rows(touch);
        return rows.subList(1, rows.size());
    }

    private int roundAt(List<Integer> touch) {
        int at = rung(touch).indexOf(rounds(now.n));
        return at < 0 ? NONE : at + 1;
    }

    private int different(List<Integer> touch) {
        return new HashSet<>(rung(touch)).size();
    }

    private int isTrue(List<Integer> touch) {
        return different(touch) == rung(touch).size() ? 1 : 0;
    }

    private int wellSounding(List<Integer> touch) {
        return (int) rung(touch).stream().filter(NaiveTouches::soundsWell).count();
    }

    private int firstRepeat() {
        List<String> rung = rung(now.touch);
        for (int i = 0; i < rung.size(); i++) {
            if (rung.indexOf(rung.get(i)) < i) {
                return i + 1;
            }
        }
        return NONE;
    }

    private int falsePairs() {
        List<Set<String>> leads = new ArrayList<>();
        for (int i = 0; i < now.touch.size(); i++) {
            int size = now.method.size();
            leads.add(new HashSet<>(rung(now.touch).subList(i * size, (i + 1) * size)));
        }
        int pairs = 0;
        for (int i = 0; i < leads.size(); i++) {
            for (int j = 0; j < i; j++) {
                Set<String> both = new HashSet<>(leads.get(i));
                both.retainAll(leads.get(j));
                pairs += both.isEmpty() ? 0 : 1;
            }
        }
        return pairs;
    }

    private int plainCourse() {
        int leads = 1;
        for (String row = led(rounds(now.n), 0); !row.equals(rounds(now.n)); row = led(row, 0)) {
            leads++;
        }
        return leads;
    }

    int count(int what) {
        if (what < 0 || what > 15) {
            return BAD;
        }
        int[] simple = {now.n, now.method.size(), now.touch.size(), last()};
        int[] others = {plainCourse(), now.bob, now.single, pad.length(), history.size()};
        switch (what) {
            case 4:
                return roundAt(now.touch);
            case 5:
                return isTrue(now.touch);
            case 6:
                return firstRepeat();
            case 7:
                return different(now.touch);
            case 8:
                return falsePairs();
            case 9:
                return wellSounding(now.touch);
            case 10:
                return (int) now.touch.stream().filter(kind -> kind != 0).count();
            default:
                return what < 4 ? simple[what] : others[what - 11];
        }
    }

    double music() {
        return last() == 0 ? 0.0 : (double) count(9) / last();
    }

    private String lastOne() {
        return rows().get(last());
    }

    int home(int way) {
        return way != 0 && way != 1 ? BAD : leadsHome(lastOne());
    }

    int homeCall(int index) {
        if (index < 0) {
            return BAD;
        }
        String row = lastOne();
        for (int i = 0; leadsHome(row) > 0; i++) {
            int kind = 0;
            while (leadsHome(led(row, kind)) != leadsHome(row) - 1) {
                kind++;
            }
            if (i == index) {
                return kind;
            }
            row = led(row, kind);
        }
        return NONE;
    }

    int ifCalled(int lead, int kind, int what) {
        if (lead < 0 || lead >= now.touch.size() || kind < 0 || kind > 2 || what < 0 || what > 2) {
            return BAD;
        }
        List<Integer> touch = new ArrayList<>(now.touch);
        touch.set(lead, kind);
        return what == 0 ? isTrue(touch) : what == 1 ? roundAt(touch) : wellSounding(touch);
    }

    int best() {
        int best = 2;
        for (int kind = 1; kind >= 0; kind--) {
            if (different(plus(now.touch, kind)) >= different(plus(now.touch, best))) {
                best = kind;
            }
        }
        return best;
    }

    int undo() {
        if (history.isEmpty()) {
            return NOT_POSSIBLE;
        }
        now = history.remove(history.size() - 1);
        return history.size();
    }

    int save() {
        snapshot = now;
        return now.touch.size();
    }

    int restore() {
        if (snapshot == null) {
            return NOT_POSSIBLE;
        }
        record();
        now = snapshot;
        return now.touch.size();
    }
}
