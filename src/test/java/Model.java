import java.util.ArrayList;
import java.util.HashMap;
import java.util.HashSet;
import java.util.List;
import java.util.Map;
import java.util.Set;
import java.util.TreeSet;

/**
 * The document read word by word, MINUTE by MINUTE and FIELD by FIELD: slow, and written without a
 * look at how AirWatch does it, so that both go wrong in one place only if the words were misread.
 */
final class Model {
    private static final int NONE = -1;

    private final List<int[]> posts = new ArrayList<>();
    private final List<int[]> listened = new ArrayList<>();
    private final List<int[]> marks = new ArrayList<>();
    private final Map<Integer, int[]> wedges = new HashMap<>();
    private int sharp = 5;
    private int gap = 10;
    private String tape = "";
    private final List<Map<String, int[]>> licences = new ArrayList<>();
    private boolean anyText = false;
    private int faultKind = 0;
    private int faultPlace = NONE;
    private int[] plan = {};

    private static boolean in(int value, int from, int to) {
        return from <= value && value <= to;
    }

    int post(int x, int y) {
        if (!in(x, 0, 31) || !in(y, 0, 31) || posts.size() == 6) {
            return NONE;
        }
        posts.add(new int[] {x, y});
        return posts.size() - 1;
    }

    private boolean stretch(int channel, int from, int to) {
        return in(channel, 0, 15) && in(from, 0, 9999) && in(to, 0, 9999) && from <= to;
    }

    int listened(int post, int channel, int from, int to) {
        if (!in(post, 0, posts.size() - 1) || !stretch(channel, from, to) || listened.size() == 100) {
            return NONE;
        }
        listened.add(new int[] {post, channel, from, to});
        return listened.size();
    }

    private boolean[] listenedBy(int post, int channel) {
        boolean[] minutes = new boolean[10000];
        for (int[] l : listened) {
            if ((post == NONE || l[0] == post) && l[1] == channel) {
                java.util.Arrays.fill(minutes, l[2], l[3] + 1, true);
            }
        }
        return minutes;
    }

    int mark(int post, int channel, int from, int to, int tone) {
        if (!in(post, 0, posts.size() - 1) || !stretch(channel, from, to) || !in(tone, 0, 999)
                || marks.size() == 60) {
            return NONE;
        }
        boolean[] minutes = listenedBy(post, channel);
        for (int t = from; t <= to; t++) {
            if (!minutes[t]) {
                return NONE;
            }
        }
        marks.add(new int[] {post, channel, from, to, tone});
        return marks.size() - 1;
    }

    boolean wedge(int mark, int dx1, int dy1, int dx2, int dy2) {
        if (!in(mark, 0, marks.size() - 1)) {
            return false;
        }
        for (int d : new int[] {dx1, dy1, dx2, dy2}) {
            if (!in(d, -100, 100)) {
                return false;
            }
        }
        if (dx1 == 0 && dy1 == 0 || dx2 == 0 && dy2 == 0 || dx1 * dy2 - dy1 * dx2 <= 0) {
            return false;
        }
        wedges.put(mark, new int[] {dx1, dy1, dx2, dy2});
        return true;
    }

    boolean joins(int newSharp, int newGap) {
        if (!in(newSharp, 0, 99) || !in(newGap, 0, 999)) {
            return false;
        }
        sharp = newSharp;
        gap = newGap;
        return true;
    }

    private boolean join(int[] a, int[] b) {
        if (a[1] != b[1] || Math.abs(a[4] - b[4]) > sharp) {
            return false;
        }
        boolean atOneTime = a[2] <= b[3] && b[2] <= a[3];
        int between = a[3] < b[2] ? b[2] - a[3] : a[2] - b[3];
        return atOneTime || between <= gap;
    }

    /** The SENDERS by a walk from each MARK that has not been come to. */
    private List<Set<Integer>> groups() {
        List<Set<Integer>> all = new ArrayList<>();
        Set<Integer> seen = new HashSet<>();
        for (int i = 0; i < marks.size(); i++) {
            if (seen.add(i)) {
                Set<Integer> group = new TreeSet<>();
                List<Integer> open = new ArrayList<>(List.of(i));
                while (!open.isEmpty()) {
                    int at = open.remove(open.size() - 1);
                    group.add(at);
                    for (int j = 0; j < marks.size(); j++) {
                        if (!seen.contains(j) && join(marks.get(at), marks.get(j))) {
                            seen.add(j);
                            open.add(j);
                        }
                    }
                }
                all.add(group);
            }
        }
        return all;
    }

    int senders() {
        return groups().size();
    }

    int senderOf(int mark) {
        List<Set<Integer>> all = groups();
        for (int k = 0; k < all.size(); k++) {
            if (all.get(k).contains(mark)) {
                return k;
            }
        }
        return NONE;
    }

    private Set<Integer> group(int k) {
        List<Set<Integer>> all = groups();
        return in(k, 0, all.size() - 1) ? all.get(k) : null;
    }

    private boolean liesIn(int mark, int x, int y) {
        int[] d = wedges.get(mark);
        int[] at = posts.get(marks.get(mark)[0]);
        if (at[0] == x && at[1] == y) {
            return true;
        }
        int vx = x - at[0];
        int vy = y - at[1];
        return d[0] * vy - d[1] * vx >= 0 && vx * d[3] - vy * d[2] >= 0;
    }

    private List<Integer> places(Set<Integer> group) {
        List<Integer> found = new ArrayList<>();
        for (int y = 0; y < 32; y++) {
            for (int x = 0; x < 32; x++) {
                boolean all = true;
                for (int mark : group) {
                    all = all && (!wedges.containsKey(mark) || liesIn(mark, x, y));
                }
                if (all) {
                    found.add(32 * y + x);
                }
            }
        }
        return found;
    }

    int sender(int k, int what) {
        Set<Integer> group = group(k);
        if (group == null || !in(what, 0, 8)) {
            return NONE;
        }
        List<Integer> firsts = new ArrayList<>();
        List<Integer> lasts = new ArrayList<>();
        List<Integer> tones = new ArrayList<>();
        Set<Integer> heardBy = new HashSet<>();
        for (int mark : group) {
            heardBy.add(marks.get(mark)[0]);
            firsts.add(marks.get(mark)[2]);
            lasts.add(marks.get(mark)[3]);
            tones.add(marks.get(mark)[4]);
        }
        int least = group.iterator().next();
        switch (what) {
            case 0: return least;
            case 1: return group.size();
            case 2: return marks.get(least)[1];
            case 3: return java.util.Collections.min(firsts);
            case 4: return java.util.Collections.max(lasts);
            case 5: return java.util.Collections.min(tones);
            case 6: return java.util.Collections.max(tones);
            case 7: return places(group).size();
            default: return heardBy.size();
        }
    }

    int place(int sender, int i) {
        Set<Integer> group = group(sender);
        if (group == null) {
            return NONE;
        }
        List<Integer> all = places(group);
        return in(i, 0, all.size() - 1) ? all.get(i) : NONE;
    }

    int box(int sender, int what) {
        Set<Integer> group = group(sender);
        if (group == null || !in(what, 0, 3) || places(group).isEmpty()) {
            return NONE;
        }
        Set<Integer> xs = new TreeSet<>();
        Set<Integer> ys = new TreeSet<>();
        for (int field : places(group)) {
            xs.add(field % 32);
            ys.add(field / 32);
        }
        Set<Integer> axis = what < 2 ? xs : ys;
        return what % 2 == 0 ? java.util.Collections.min(axis) : java.util.Collections.max(axis);
    }

    /** 0 HEARD, 1 SILENT, 2 UNSEEN of each MINUTE. */
    private int[] states(int channel) {
        boolean[] ears = listenedBy(NONE, channel);
        int[] states = new int[10000];
        for (int t = 0; t < 10000; t++) {
            states[t] = ears[t] ? 1 : 2;
        }
        for (int[] m : marks) {
            if (m[1] == channel) {
                java.util.Arrays.fill(states, m[2], m[3] + 1, 0);
            }
        }
        return states;
    }

    int minutes(int channel, int from, int to, int what) {
        if (!stretch(channel, from, to) || !in(what, 0, 2)) {
            return NONE;
        }
        int[] states = states(channel);
        int sum = 0;
        for (int t = from; t <= to; t++) {
            sum += states[t] == what ? 1 : 0;
        }
        return sum;
    }

    int blind(int channel, int from, int to) {
        if (!stretch(channel, from, to)) {
            return NONE;
        }
        int[] states = states(channel);
        int longest = 0;
        int row = 0;
        for (int t = from; t <= to; t++) {
            row = states[t] == 2 ? row + 1 : 0;
            longest = Math.max(longest, row);
        }
        return longest;
    }

    int feed(int a, int b, int c, int d, int e) {
        if (tape.length() + 20 > 100) {
            return NONE;
        }
        for (int four : new int[] {a, b, c, d, e}) {
            tape += (char) (four >>> 24);
            tape += (char) (four >>> 16 & 255);
            tape += (char) (four >>> 8 & 255);
            tape += (char) (four & 255);
        }
        return tape.length();
    }

    int end(int n) {
        if (!in(n, 0, tape.length())) {
            return NONE;
        }
        tape = tape.substring(0, n);
        return n;
    }

    int licence() {
        if (licences.size() == 10) {
            return NONE;
        }
        Map<String, int[]> clauses = new HashMap<>();
        anyText = true;
        faultKind = 0;
        faultPlace = NONE;
        parse(clauses);
        tape = "";
        if (faultKind != 0) {
            return NONE;
        }
        licences.add(clauses);
        return licences.size() - 1;
    }

    /** TOKENS with their places; the end is an empty one. */
    private void parse(Map<String, int[]> clauses) {
        java.util.regex.Matcher m = java.util.regex.Pattern
                .compile("[a-zA-Z]+|[0-9]+|[^ ]", java.util.regex.Pattern.DOTALL).matcher(tape);
        String due = "";
        String word = "";
        int number = 0;
        while (m.find()) {
            String token = m.group();
            int kind = 0;
            if (due.isEmpty()) {
                if (!token.matches("chan|time|tone|box")) {
                    kind = 1;
                } else if (clauses.containsKey(token)) {
                    kind = 2;
                } else {
                    word = token;
                    number = 0;
                    clauses.put(word, new int[4]);
                    due = word.equals("box") ? "N-NN-N;" : "N-N;";
                }
            } else {
                char want = due.charAt(0);
                due = due.substring(1);
                if (want != 'N') {
                    kind = token.equals("" + want) ? 0 : 1;
                } else if (!token.matches("[0-9]+")) {
                    kind = 1;
                } else {
                    kind = number(word, number, new java.math.BigInteger(token), clauses.get(word)) ? 0 : 3;
                    number++;
                }
            }
            if (kind != 0) {
                faultKind = kind;
                faultPlace = m.start();
                return;
            }
        }
        if (!due.isEmpty()) {
            faultKind = 1;
            faultPlace = tape.length();
        }
    }

    private static int top(String word) {
        switch (word) {
            case "chan": return 15;
            case "time": return 1439;
            case "tone": return 999;
            default: return 31;
        }
    }

    private static boolean number(String word, int index, java.math.BigInteger value, int[] into) {
        if (value.compareTo(java.math.BigInteger.valueOf(top(word))) > 0) {
            return false;
        }
        into[index] = value.intValue();
        return word.equals("time") || index % 2 == 0 || into[index] >= into[index - 1];
    }

    int fault(int what) {
        if (!anyText || !in(what, 0, 1)) {
            return NONE;
        }
        return what == 0 ? faultKind : faultPlace;
    }

    private static boolean timeTold(int[] clause, int minute) {
        int day = minute % 1440;
        return clause[0] <= clause[1] ? in(day, clause[0], clause[1]) : day >= clause[0] || day <= clause[1];
    }

    int fits(int sender, int licence) {
        Set<Integer> group = group(sender);
        if (group == null || !in(licence, 0, licences.size() - 1)) {
            return NONE;
        }
        Map<String, int[]> clauses = licences.get(licence);
        int[] chan = clauses.getOrDefault("chan", new int[] {0, 15});
        int[] tone = clauses.getOrDefault("tone", new int[] {0, 999});
        int[] time = clauses.getOrDefault("time", new int[] {0, 1439});
        int[] box = clauses.getOrDefault("box", new int[] {0, 31, 0, 31});
        boolean tones = true;
        boolean times = true;
        for (int mark : group) {
            int[] m = marks.get(mark);
            if (!in(m[1], chan[0], chan[1])) {
                return 1;
            }
            tones = tones && in(m[4], tone[0], tone[1]);
            for (int t = m[2]; t <= m[3]; t++) {
                times = times && timeTold(time, t);
            }
        }
        int inside = 0;
        List<Integer> all = places(group);
        for (int field : all) {
            inside += in(field % 32, box[0], box[1]) && in(field / 32, box[2], box[3]) ? 1 : 0;
        }
        if (!tones) {
            return 2;
        }
        if (!times) {
            return 3;
        }
        if (inside == 0) {
            return 4;
        }
        return inside < all.size() ? 5 : 0;
    }

    int best(int sender, int what) {
        if (group(sender) == null || licences.isEmpty() || !in(what, 0, 1)) {
            return NONE;
        }
        for (int answer : new int[] {0, 5, 4, 3, 2, 1}) {
            for (int i = 0; i < licences.size(); i++) {
                if (fits(sender, i) == answer) {
                    return what == 0 ? i : answer;
                }
            }
        }
        return NONE;
    }

    int wanderers() {
        int sum = 0;
        for (int k = 0; k < senders(); k++) {
            boolean none = true;
            for (int i = 0; i < licences.size(); i++) {
                none = none && fits(k, i) != 0;
            }
            sum += none ? 1 : 0;
        }
        return sum;
    }

    int sweep(int channels, int from, int n, int m) {
        if (!in(channels, 1, 65535) || !in(from, 0, 9999) || !in(n, 1, 4) || !in(m, 1, 240)
                || from + n * m - 1 > 9999) {
            return NONE;
        }
        int[][] told = new int[16][n];
        for (int c = 0; c < 16; c++) {
            boolean[] ears = listenedBy(NONE, c);
            for (int slot = 0; slot < n; slot++) {
                int t = from + slot * m - 1;
                while (t >= 0 && !ears[t]) {
                    t--;
                }
                told[c][slot] = t;
            }
        }
        int most = NONE;
        for (int way = 0; way < 1 << 4 * n; way++) {
            int[] chosen = new int[n];
            boolean all = true;
            for (int slot = 0; slot < n; slot++) {
                chosen[slot] = way >> 4 * (n - 1 - slot) & 15;
                all = all && (channels & 1 << chosen[slot]) != 0;
            }
            int worth = all ? worth(told, chosen, from, m) : NONE;
            if (worth > most) {
                most = worth;
                plan = chosen;
            }
        }
        return most;
    }

    private static int worth(int[][] told, int[] chosen, int from, int m) {
        int worth = 0;
        for (int slot = 0; slot < chosen.length; slot++) {
            int latest = told[chosen[slot]][slot];
            for (int earlier = 0; earlier < slot; earlier++) {
                if (chosen[earlier] == chosen[slot]) {
                    latest = Math.max(latest, from + (earlier + 1) * m - 1);
                }
            }
            worth += from + slot * m - latest;
        }
        return worth;
    }

    int slot(int i) {
        return in(i, 0, plan.length - 1) ? plan[i] : NONE;
    }

    int about(int what) {
        switch (what) {
            case 0: return posts.size();
            case 1: return listened.size();
            case 2: return marks.size();
            case 3: return licences.size();
            case 4: return sharp;
            case 5: return gap;
            case 6: return tape.length();
            case 7: return wedges.size();
            default: return NONE;
        }
    }
}
