/**
 * Listening posts over a land: what they heard, joined into senders; where a sender may be; which
 * licence it fits; which time was listened to; and where to listen next. The words in capitals are
 * the terms of the document.
 */
public final class AirWatch {
    /** None. */
    public static final int NONE = -1;

    private static final int SIDE = 32;
    private static final int MINUTES = 10000;
    private static final int CHANNELS = 16;
    private static final int TONES = 1000;
    private static final int DAY = 1440;
    private static final int STEEPEST = 100;
    private static final int SHARPS = 100;
    private static final int GAPS = 1000;
    private static final int MOST_POSTS = 6;
    private static final int MOST_LISTENED = 100;
    private static final int MOST_MARKS = 60;
    private static final int MOST_BYTES = 100;
    private static final int FED_BYTES = 20;
    private static final int MOST_LICENCES = 10;
    private static final int MOST_SLOTS = 4;
    private static final int LONGEST_SLOT = 240;

    private static final int HEARD = 0;
    private static final int SILENT = 1;
    private static final int UNSEEN = 2;

    /** What a LICENCE bounds: a part p has its bounds at 2 p and 2 p + 1. */
    private static final int CHAN = 0;
    private static final int TIME = 1;
    private static final int TONE = 2;
    private static final int BOX_X = 3;
    private static final int BOX_Y = 4;
    private static final int PARTS = 5;
    private static final int[] GREATEST = {CHANNELS - 1, DAY - 1, TONES - 1, SIDE - 1, SIDE - 1};

    private final Posts posts = new Posts();
    private final Spans listening = new Spans(MOST_LISTENED);
    private final Marks marks = new Marks();
    private final Groups groups = new Groups();
    private final Sketch sketch = new Sketch();
    private final Tape tape = new Tape();
    private final Reader reader = new Reader();
    private final Licences licences = new Licences();
    private final Plan plan = new Plan();

    /** No POSTS, MARKS, LICENCES. */
    public AirWatch() {
    }

    /** A POST: its number. */
    public int post(int x, int y) {
        if (!isBelow(x, SIDE) || !isBelow(y, SIDE) || posts.count >= MOST_POSTS) {
            return NONE;
        }
        return posts.add(x, y);
    }

    /** LISTENED: how many there are. */
    public int listened(int post, int channel, int from, int to) {
        if (!isHearing(post, channel, from, to) || listening.count >= MOST_LISTENED) {
            return NONE;
        }
        return listening.add(post, channel, from, to) + 1;
    }

    /** A MARK without a WEDGE: its number. */
    public int mark(int post, int channel, int from, int to, int tone) {
        if (!isHearing(post, channel, from, to) || !isBelow(tone, TONES)
                || marks.spans.count >= MOST_MARKS
                || !listening.holdsEach(post, channel, from, to)) {
            return NONE;
        }
        int number = marks.add(post, channel, from, to, tone);
        groups.gather(marks);
        return number;
    }

    /** The WEDGE of a MARK, in place of what it had. */
    public boolean wedge(int mark, int dx1, int dy1, int dx2, int dy2) {
        if (!isBelow(mark, marks.spans.count) || !isSide(dx1) || !isSide(dy1) || !isSide(dx2)
                || !isSide(dy2) || dx1 * dy2 - dy1 * dx2 <= 0) {
            return false;
        }
        int post = marks.spans.post[mark];
        marks.clearFields(mark);
        for (int field = 0; field < SIDE * SIDE; field++) {
            int vx = field % SIDE - posts.x[post];
            int vy = field / SIDE - posts.y[post];
            if (dx1 * vy - dy1 * vx >= 0 && vx * dy2 - vy * dx2 >= 0) {
                marks.addField(mark, field);
            }
        }
        return true;
    }

    /** SHARP, GAP. */
    public boolean joins(int sharp, int gap) {
        if (!isBelow(sharp, SHARPS) || !isBelow(gap, GAPS)) {
            return false;
        }
        groups.sharp = sharp;
        groups.gap = gap;
        groups.gather(marks);
        return true;
    }

    /** How many SENDERS. */
    public int senders() {
        return groups.count;
    }

    /** The SENDER of a MARK. */
    public int senderOf(int mark) {
        return isBelow(mark, marks.spans.count) ? groups.number[mark] : NONE;
    }

    /** A fact of a SENDER. */
    public int sender(int k, int what) {
        if (!isBelow(k, groups.count)) {
            return NONE;
        }
        sketch.draw(marks, groups.number, k);
        switch (what) {
            case 0: return sketch.own[0];
            case 1: return sketch.count;
            case 2: return sketch.channel;
            case 3: return sketch.first;
            case 4: return sketch.last;
            case 5: return sketch.leastTone;
            case 6: return sketch.greatestTone;
            case 7: return sketch.countFields();
            case 8: return Integer.bitCount(sketch.posts);
            default: return NONE;
        }
    }

    /** The i-th of its PLACES. */
    public int place(int sender, int i) {
        if (!isBelow(sender, groups.count) || !isBelow(i, SIDE * SIDE)) {
            return NONE;
        }
        sketch.draw(marks, groups.number, sender);
        return sketch.fieldAt(i);
    }

    /** The least box with all its PLACES. */
    public int box(int sender, int what) {
        if (!isBelow(sender, groups.count) || !isBelow(what, 4)) {
            return NONE;
        }
        sketch.draw(marks, groups.number, sender);
        return sketch.edge(what >= 2, what % 2 == 1);
    }

    /** How many MINUTES of a CHANNEL are HEARD, SILENT or UNSEEN. */
    public int minutes(int channel, int from, int to, int what) {
        if (!isBelow(channel, CHANNELS) || !isStretch(from, to) || !isBelow(what, UNSEEN + 1)) {
            return NONE;
        }
        int sum = 0;
        int next = from;
        for (int t = from; t <= to; t = Math.max(t + 1, next)) {
            next = changeBehind(channel, t, to + 1);
            if (stateAt(channel, t) == what) {
                sum += next - t;
            }
        }
        return sum;
    }

    /** The longest row of UNSEEN MINUTES of a CHANNEL. */
    public int blind(int channel, int from, int to) {
        if (!isBelow(channel, CHANNELS) || !isStretch(from, to)) {
            return NONE;
        }
        int longest = 0;
        int next = from;
        for (int t = from; t <= to; t = Math.max(t + 1, next)) {
            // Two UNSEEN stretches never touch: what parts them is HEARD or SILENT.
            next = changeBehind(channel, t, to + 1);
            if (stateAt(channel, t) == UNSEEN) {
                longest = Math.max(longest, next - t);
            }
        }
        return longest;
    }

    /** Twenty bytes come behind the tape: how many it has. */
    public int feed(int a, int b, int c, int d, int e) {
        if (tape.length + FED_BYTES > MOST_BYTES) {
            return NONE;
        }
        tape.add(a);
        tape.add(b);
        tape.add(c);
        tape.add(d);
        tape.add(e);
        return tape.length;
    }

    /** The tape has its first n bytes alone. */
    public int end(int n) {
        if (n < 0 || n > tape.length) {
            return NONE;
        }
        tape.length = n;
        return n;
    }

    /** The tape is a LICENCE: its number. */
    public int licence() {
        if (licences.count >= MOST_LICENCES) {
            return NONE;
        }
        reader.read(tape);
        tape.length = 0;
        return reader.fault == 0 ? licences.add(reader.bounds) : NONE;
    }

    /** The FAULT of the latest text, or its place. */
    public int fault(int what) {
        switch (what) {
            case 0: return reader.fault;
            case 1: return reader.place;
            default: return NONE;
        }
    }

    /** How a SENDER FITS a LICENCE. */
    public int fits(int sender, int licence) {
        if (!isBelow(sender, groups.count) || !isBelow(licence, licences.count)) {
            return NONE;
        }
        sketch.draw(marks, groups.number, sender);
        return licences.judge(licence, sketch, marks.spans);
    }

    /** BEST of a SENDER: the LICENCE, or the answer. */
    public int best(int sender, int what) {
        if (!isBelow(sender, groups.count) || !isBelow(what, 2) || licences.count == 0) {
            return NONE;
        }
        sketch.draw(marks, groups.number, sender);
        int licence = licences.choose(sketch, marks.spans);
        return what == 0 ? licence : licences.judge(licence, sketch, marks.spans);
    }

    /** How many SENDERS FIT no LICENCE by 0. */
    public int wanderers() {
        int sum = 0;
        for (int k = 0; k < groups.count; k++) {
            sketch.draw(marks, groups.number, k);
            int licence = licences.choose(sketch, marks.spans);
            if (licence == NONE || licences.judge(licence, sketch, marks.spans) != 0) {
                sum++;
            }
        }
        return sum;
    }

    /** WORTH of the best SWEEP. */
    public int sweep(int channels, int from, int n, int m) {
        if (channels <= 0 || channels >= 1 << CHANNELS || !isBelow(from, MINUTES)
                || n < 1 || n > MOST_SLOTS || m < 1 || m > LONGEST_SLOT
                || from + n * m > MINUTES) {
            return NONE;
        }
        plan.lay(from, n, m);
        plan.look(listening, channels);
        return plan.search();
    }

    /** The CHANNEL of slot i of the latest SWEEP that told a WORTH. */
    public int slot(int i) {
        return isBelow(i, plan.slots) ? plan.best[i] : NONE;
    }

    /** How many there are of a kind, or what is set. */
    public int about(int what) {
        switch (what) {
            case 0: return posts.count;
            case 1: return listening.count;
            case 2: return marks.spans.count;
            case 3: return licences.count;
            case 4: return groups.sharp;
            case 5: return groups.gap;
            case 6: return tape.length;
            case 7: return marks.wedges;
            default: return NONE;
        }
    }

    private static boolean isBelow(int value, int bound) {
        return value >= 0 && value < bound;
    }

    private static boolean isSide(int d) {
        return d >= -STEEPEST && d <= STEEPEST;
    }

    private static boolean isStretch(int from, int to) {
        return from >= 0 && from <= to && to < MINUTES;
    }

    private boolean isHearing(int post, int channel, int from, int to) {
        return isBelow(post, posts.count) && isBelow(channel, CHANNELS) && isStretch(from, to);
    }

    private int stateAt(int channel, int minute) {
        if (marks.spans.holds(channel, minute)) {
            return HEARD;
        }
        return listening.holds(channel, minute) ? SILENT : UNSEEN;
    }

    /** From a MINUTE to the one ahead of the answer the state of a CHANNEL is one. */
    private int changeBehind(int channel, int minute, int limit) {
        return marks.spans.changeBehind(channel, minute,
                listening.changeBehind(channel, minute, limit));
    }

    /** The POSTS and their FIELDS. */
    private static final class Posts {
        private final int[] x = new int[MOST_POSTS];
        private final int[] y = new int[MOST_POSTS];
        private int count;

        int add(int itsX, int itsY) {
            if (count >= MOST_POSTS) {
                return NONE;
            }
            x[count] = itsX;
            y[count] = itsY;
            count++;
            return count - 1;
        }
    }

    /** Stretches of MINUTES of a POST on a CHANNEL: those LISTENED, or those of the MARKS. */
    private static final class Spans {
        private final int[] post;
        private final int[] channel;
        private final int[] from;
        private final int[] to;
        private int count;

        Spans(int most) {
            int room = Math.max(0, most);
            post = new int[room];
            channel = new int[room];
            from = new int[room];
            to = new int[room];
        }

        int add(int itsPost, int itsChannel, int first, int last) {
            if (count >= post.length) {
                return NONE;
            }
            post[count] = itsPost;
            channel[count] = itsChannel;
            from[count] = first;
            to[count] = last;
            count++;
            return count - 1;
        }

        boolean holds(int onChannel, int minute) {
            for (int i = 0; i < count; i++) {
                if (channel[i] == onChannel && from[i] <= minute && minute <= to[i]) {
                    return true;
                }
            }
            return false;
        }

        /** The first MINUTE behind this one where a stretch begins or is over; the limit at most. */
        int changeBehind(int onChannel, int minute, int limit) {
            int change = limit;
            for (int i = 0; i < count; i++) {
                if (channel[i] == onChannel && from[i] > minute) {
                    change = Math.min(change, from[i]);
                } else if (channel[i] == onChannel && to[i] >= minute) {
                    change = Math.min(change, to[i] + 1);
                }
            }
            return change;
        }

        /** Several stretches that overlap or touch may hold the MINUTES together. */
        boolean holdsEach(int ofPost, int onChannel, int first, int last) {
            int open = first;
            // A round that helps uses up a stretch, so there is no need for more rounds.
            for (int round = 0; round < count && open <= last; round++) {
                open = openBehind(ofPost, onChannel, open);
            }
            return open > last;
        }

        private int openBehind(int ofPost, int onChannel, int minute) {
            int open = minute;
            for (int i = 0; i < count; i++) {
                if (post[i] == ofPost && channel[i] == onChannel && from[i] <= minute) {
                    open = Math.max(open, to[i] + 1);
                }
            }
            return open;
        }

        /** The latest MINUTE ahead of this one in a stretch; -1 if there is none. */
        int latestAhead(int onChannel, int minute) {
            int latest = -1;
            for (int i = 0; i < count; i++) {
                if (channel[i] == onChannel && from[i] < minute) {
                    latest = Math.max(latest, Math.min(to[i], minute - 1));
                }
            }
            return latest;
        }
    }

    /** The MARKS; the FIELDS in a WEDGE are kept as rows of bits, so that PLACES are an "and". */
    private static final class Marks {
        private final Spans spans = new Spans(MOST_MARKS);
        private final int[] tone = new int[MOST_MARKS];
        private final boolean[] wedged = new boolean[MOST_MARKS];
        private final int[][] fields = new int[MOST_MARKS][SIDE];
        private int wedges;

        int add(int post, int channel, int from, int to, int itsTone) {
            int number = spans.add(post, channel, from, to);
            if (number != NONE) {
                tone[number] = itsTone;
            }
            return number;
        }

        void clearFields(int mark) {
            if (!wedged[mark]) {
                wedged[mark] = true;
                wedges++;
            }
            for (int y = 0; y < SIDE; y++) {
                fields[mark][y] = 0;
            }
        }

        void addField(int mark, int field) {
            fields[mark][field / SIDE] |= 1 << field % SIDE;
        }

        /** Of MARKS at one time both ways from end to beginning are 0 or below. */
        boolean areJoined(int i, int j, int sharp, int gap) {
            return spans.channel[i] == spans.channel[j]
                    && Math.abs(tone[i] - tone[j]) <= sharp
                    && spans.from[i] - spans.to[j] <= gap
                    && spans.from[j] - spans.to[i] <= gap;
        }
    }

    /** Which MARKS come together as SENDERS, by the SHARP and GAP that are set. */
    private static final class Groups {
        private final int[] least = new int[MOST_MARKS];
        private final int[] number = new int[MOST_MARKS];
        private int sharp = 5;
        private int gap = 10;
        private int count;

        void gather(Marks marks) {
            for (int i = 0; i < marks.spans.count; i++) {
                least[i] = i;
                for (int j = 0; j < i; j++) {
                    if (least[i] != least[j] && marks.areJoined(i, j, sharp, gap)) {
                        unite(i, j);
                    }
                }
            }
            giveNumbers(marks.spans.count);
        }

        /** The later of two groups takes on the least MARK of the other. */
        private void unite(int i, int j) {
            int kept = Math.min(least[i], least[j]);
            int lost = Math.max(least[i], least[j]);
            for (int mark = 0; mark <= i; mark++) {
                if (least[mark] == lost) {
                    least[mark] = kept;
                }
            }
        }

        private void giveNumbers(int ofMarks) {
            count = 0;
            for (int i = 0; i < ofMarks; i++) {
                if (least[i] == i) {
                    number[i] = count;
                    count++;
                } else {
                    number[i] = number[least[i]];
                }
            }
        }
    }

    /** What is known of one SENDER: drawn anew for each question, so nothing in it grows old. */
    private static final class Sketch {
        private final int[] own = new int[MOST_MARKS];
        private final int[] fields = new int[SIDE];
        private int count;
        private int channel;
        private int first;
        private int last;
        private int leastTone;
        private int greatestTone;
        private int posts;

        void draw(Marks marks, int[] number, int k) {
            count = 0;
            channel = NONE;
            first = MINUTES;
            last = NONE;
            leastTone = TONES;
            greatestTone = NONE;
            posts = 0;
            for (int y = 0; y < SIDE; y++) {
                fields[y] = -1;
            }
            for (int mark = 0; mark < marks.spans.count; mark++) {
                if (number[mark] == k) {
                    add(marks, mark);
                }
            }
        }

        private void add(Marks marks, int mark) {
            if (count >= own.length) {
                return;
            }
            own[count] = mark;
            count++;
            channel = marks.spans.channel[mark];
            first = Math.min(first, marks.spans.from[mark]);
            last = Math.max(last, marks.spans.to[mark]);
            leastTone = Math.min(leastTone, marks.tone[mark]);
            greatestTone = Math.max(greatestTone, marks.tone[mark]);
            posts |= 1 << marks.spans.post[mark];
            for (int y = 0; marks.wedged[mark] && y < SIDE; y++) {
                fields[y] &= marks.fields[mark][y];
            }
        }

        private boolean has(int field) {
            return (fields[field / SIDE] >> field % SIDE & 1) != 0;
        }

        int countFields() {
            int sum = 0;
            for (int y = 0; y < SIDE; y++) {
                sum += Integer.bitCount(fields[y]);
            }
            return sum;
        }

        int fieldAt(int i) {
            int ahead = 0;
            for (int field = 0; field < SIDE * SIDE; field++) {
                if (has(field)) {
                    if (ahead == i) {
                        return field;
                    }
                    ahead++;
                }
            }
            return NONE;
        }

        /** The least or greatest x or y of the FIELDS. */
        int edge(boolean ofY, boolean greatest) {
            int found = NONE;
            for (int field = 0; field < SIDE * SIDE; field++) {
                int value = ofY ? field / SIDE : field % SIDE;
                boolean further = greatest ? value > found : value < found;
                if (has(field) && (found == NONE || further)) {
                    found = value;
                }
            }
            return found;
        }
    }

    /** The bytes told, and the TOKEN that a reader has come to. */
    private static final class Tape {
        private static final int END = 0;
        private static final int WORD = 1;
        private static final int NUMBER = 2;
        private static final int DASH = 3;
        private static final int STOP = 4;
        private static final int OTHER = 5;
        private static final int BLANK = 32;
        /** Above all NUMBERS of a LICENCE, and so low that ten times it is an int. */
        private static final int TOO_GREAT = 10000;

        private final int[] bytes = new int[MOST_BYTES];
        private int length;
        private int start;
        private int behind;
        private int kind;

        void add(int four) {
            for (int shift = 24; shift >= 0 && length < MOST_BYTES; shift -= 8) {
                bytes[length] = four >>> shift & 255;
                length++;
            }
        }

        void rewind() {
            behind = 0;
            step();
        }

        void step() {
            start = behind;
            while (start < length && bytes[start] == BLANK) {
                start++;
            }
            kind = start < length ? kindOf(bytes[start]) : END;
            behind = kind == END ? start : start + 1;
            boolean grows = kind == WORD || kind == NUMBER;
            while (grows && behind < length && kindOf(bytes[behind]) == kind) {
                behind++;
            }
        }

        private static int kindOf(int sign) {
            if (sign >= 'a' && sign <= 'z' || sign >= 'A' && sign <= 'Z') {
                return WORD;
            }
            if (sign >= '0' && sign <= '9') {
                return NUMBER;
            }
            if (sign == '-') {
                return DASH;
            }
            return sign == ';' ? STOP : OTHER;
        }

        boolean spells(String word) {
            if (behind - start != word.length()) {
                return false;
            }
            for (int i = 0; i < word.length(); i++) {
                if (bytes[start + i] != word.charAt(i)) {
                    return false;
                }
            }
            return true;
        }

        int value() {
            int value = 0;
            for (int i = start; i < behind; i++) {
                value = Math.min(TOO_GREAT, value * 10 + bytes[i] - '0');
            }
            return value;
        }
    }

    /** Reads a text as clauses, as far as its first FAULT. */
    private static final class Reader {
        private static final int MISPLACED = 1;
        private static final int REPEATED = 2;
        private static final int OUTSIDE = 3;
        /** The words are told by the first part that each bounds. */
        private static final int WORDS = 4;

        private final int[] bounds = new int[2 * PARTS];
        private int seen;
        private int fault = NONE;
        private int place = NONE;

        void read(Tape tape) {
            fault = 0;
            place = NONE;
            seen = 0;
            for (int part = 0; part < PARTS; part++) {
                bounds[2 * part] = 0;
                bounds[2 * part + 1] = GREATEST[part];
            }
            tape.rewind();
            // One clause more than there are words is a FAULT at the latest.
            for (int i = 0; i <= WORDS && fault == 0 && tape.kind != Tape.END; i++) {
                readClause(tape);
            }
        }

        private void readClause(Tape tape) {
            int word = wordOf(tape);
            if (word == NONE) {
                blame(tape, MISPLACED);
            } else if ((seen >> word & 1) != 0) {
                blame(tape, REPEATED);
            } else {
                seen |= 1 << word;
                tape.step();
                readRange(tape, word);
                if (word == BOX_X) {
                    readRange(tape, BOX_Y);
                }
                readSign(tape, Tape.STOP);
            }
        }

        private static int wordOf(Tape tape) {
            if (tape.spells("chan")) {
                return CHAN;
            }
            if (tape.spells("time")) {
                return TIME;
            }
            if (tape.spells("tone")) {
                return TONE;
            }
            return tape.spells("box") ? BOX_X : NONE;
        }

        private void readRange(Tape tape, int part) {
            readNumber(tape, 2 * part, 0, GREATEST[part]);
            readSign(tape, Tape.DASH);
            int least = part == TIME ? 0 : bounds[2 * part];
            readNumber(tape, 2 * part + 1, least, GREATEST[part]);
        }

        private void readNumber(Tape tape, int index, int least, int greatest) {
            if (fault != 0) {
                return;
            }
            if (tape.kind != Tape.NUMBER) {
                blame(tape, MISPLACED);
                return;
            }
            int value = tape.value();
            if (value < least || value > greatest) {
                blame(tape, OUTSIDE);
                return;
            }
            bounds[index] = value;
            tape.step();
        }

        private void readSign(Tape tape, int kind) {
            if (fault != 0) {
                return;
            }
            if (tape.kind != kind) {
                blame(tape, MISPLACED);
                return;
            }
            tape.step();
        }

        private void blame(Tape tape, int what) {
            fault = what;
            place = tape.start;
        }
    }

    /** The LICENCES, each as the bounds of its parts. */
    private static final class Licences {
        /** There are 0 .. 5; BEST takes 0 first, then the others from the last one down. */
        private static final int ANSWERS = 6;

        private final int[][] bounds = new int[MOST_LICENCES][2 * PARTS];
        private int count;

        int add(int[] told) {
            if (count >= MOST_LICENCES || told.length < 2 * PARTS) {
                return NONE;
            }
            for (int i = 0; i < 2 * PARTS; i++) {
                bounds[count][i] = told[i];
            }
            count++;
            return count - 1;
        }

        int judge(int licence, Sketch sketch, Spans spans) {
            if (!allows(licence, CHAN, sketch.channel, sketch.channel)) {
                return 1;
            }
            if (!allows(licence, TONE, sketch.leastTone, sketch.greatestTone)) {
                return 2;
            }
            for (int i = 0; i < sketch.count; i++) {
                int mark = sketch.own[i];
                if (!allowsTime(licence, spans.from[mark], spans.to[mark])) {
                    return 3;
                }
            }
            return judgeFields(licence, sketch.fields);
        }

        private boolean allows(int licence, int part, int least, int greatest) {
            return least >= bounds[licence][2 * part] && greatest <= bounds[licence][2 * part + 1];
        }

        /** Both are told from the LICENCE's first MINUTE on, so midnight needs no care. */
        private boolean allowsTime(int licence, int from, int to) {
            int begin = bounds[licence][2 * TIME];
            int width = Math.floorMod(bounds[licence][2 * TIME + 1] - begin, DAY);
            return width == DAY - 1 || Math.floorMod(from - begin, DAY) + to - from <= width;
        }

        private int judgeFields(int licence, int[] fields) {
            int left = bounds[licence][2 * BOX_X];
            int right = bounds[licence][2 * BOX_X + 1];
            int columns = (-1 >>> (SIDE - 1 - (right - left))) << left;
            boolean some = false;
            boolean all = true;
            for (int y = 0; y < SIDE; y++) {
                int inside = allows(licence, BOX_Y, y, y) ? fields[y] & columns : 0;
                some = some || inside != 0;
                all = all && inside == fields[y];
            }
            if (!some) {
                return 4;
            }
            return all ? 0 : 5;
        }

        /** The BEST one; NONE if there are no LICENCES. */
        int choose(Sketch sketch, Spans spans) {
            int chosen = NONE;
            int leastRank = ANSWERS;
            for (int licence = 0; licence < count; licence++) {
                int rank = (ANSWERS - judge(licence, sketch, spans)) % ANSWERS;
                if (rank < leastRank) {
                    leastRank = rank;
                    chosen = licence;
                }
            }
            return chosen;
        }
    }

    /** The slots to come, and the latest SWEEP that was found the best. */
    private static final class Plan {
        private final int[] begin = new int[MOST_SLOTS];
        private final int[][] latest = new int[MOST_SLOTS][CHANNELS];
        private final int[][] tries = new int[MOST_SLOTS][MOST_SLOTS];
        private final int[] chosen = new int[MOST_SLOTS];
        private final int[] best = new int[MOST_SLOTS];
        private int slots;
        private int length;
        private int choices;

        void lay(int from, int n, int m) {
            slots = Math.min(n, MOST_SLOTS);
            length = m;
            for (int slot = 0; slot < slots; slot++) {
                begin[slot] = from + slot * m;
            }
        }

        void look(Spans listening, int channels) {
            for (int slot = 0; slot < slots; slot++) {
                for (int c = 0; c < CHANNELS; c++) {
                    latest[slot][c] = listening.latestAhead(c, begin[slot]);
                }
                choices = 0;
                for (int c = 0; c < CHANNELS; c++) {
                    if (isOneOfOldest(slot, c, channels) && choices < MOST_SLOTS) {
                        tries[slot][choices] = c;
                        choices++;
                    }
                }
            }
        }

        /**
         * As many CHANNELS as there are slots are enough to try in a slot, those that come first
         * by AGE, then by number: the other slots can't use them all, and one that they leave
         * would be better there than a CHANNEL behind these, or like it and earlier.
         */
        private boolean isOneOfOldest(int slot, int channel, int channels) {
            int ahead = 0;
            for (int c = 0; c < CHANNELS; c++) {
                boolean older = latest[slot][c] < latest[slot][channel]
                        || latest[slot][c] == latest[slot][channel] && c < channel;
                if (older && (channels >> c & 1) != 0) {
                    ahead++;
                }
            }
            return (channels >> channel & 1) != 0 && ahead < slots;
        }

        /** The WORTH of the first of the best ones. */
        int search() {
            int ways = 1;
            for (int slot = 0; slot < slots; slot++) {
                ways *= choices;
            }
            int most = NONE;
            for (int way = 0; way < ways; way++) {
                choose(way);
                int worth = worthOfChosen();
                if (worth > most) {
                    most = worth;
                    keepChosen();
                }
            }
            return most;
        }

        /** The ways are counted with the last slot as the lowest digit: by CHANNELS, slot by slot. */
        private void choose(int way) {
            int rest = way;
            for (int slot = slots - 1; slot >= 0 && choices > 0; slot--) {
                chosen[slot] = tries[slot][rest % choices];
                rest /= choices;
            }
        }

        private int worthOfChosen() {
            int worth = 0;
            for (int slot = 0; slot < slots; slot++) {
                int heard = latest[slot][chosen[slot]];
                for (int earlier = 0; earlier < slot; earlier++) {
                    if (chosen[earlier] == chosen[slot]) {
                        heard = Math.max(heard, begin[earlier] + length - 1);
                    }
                }
                worth += begin[slot] - heard;
            }
            return worth;
        }

        private void keepChosen() {
            for (int slot = 0; slot < slots; slot++) {
                best[slot] = chosen[slot];
            }
        }
    }
}
