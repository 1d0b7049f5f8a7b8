/** The edges that the document's terms name, part I: the land, POSTS, MARKS, WEDGES, SENDERS, PLACES. */
public final class LandEdgesTest {
    private static final int NONE = Edge.NONE;

    private LandEdgesTest() {
    }

    public static void main(String[] args) {
        fields();
        corners();
        minutes();
        channels();
        posts();
        listenedBothEnds();
        listenedUpToHundred();
        marksUpToSixty();
        marksBothEnds();
        listenedInEach();
        tones();
        wedgeSides();
        wedgeNotBothZero();
        wedgeTurn();
        liesInQuarters();
        liesInSlanted();
        ownField();
        joinChannel();
        joinSharp();
        joinGap();
        joinAtOneTime();
        oneByOne();
        leastMarks();
        places();
        Check.finish();
    }

    private static void fields() {
        Edge.sentence("The land: FIELDS (x, y), each of 0 .. 31.");
        Edge.range("post(v, 3)", 0, 31, Scenes::empty, (w, v) -> w.post(v, 3));
        Edge.range("post(3, v)", 0, 31, Scenes::empty, (w, v) -> w.post(3, v));
        Edge.range("post(v, 31)", 0, 31, Scenes::some, (w, v) -> w.post(v, 31));
        Edge.range("post(0, v)", 0, 31, Scenes::some, (w, v) -> w.post(0, v));
    }

    /** A POST in a corner: a WEDGE out of the land leaves its own FIELD, one into it leaves all. */
    private static void corner(int x, int y, int[] out, int[] into) {
        Watch w = new Watch();
        w.post(x, y);
        w.listened(0, 0, 0, 0);
        w.mark(0, 0, 0, 0, 0);
        String at = " from (" + x + ", " + y + ")";
        Edge.due("out" + at, w.wedge(0, out[0], out[1], out[2], out[3]), 1);
        Edge.due("PLACES out" + at, w.sender(0, 7), 1);
        Edge.due("own FIELD" + at, w.place(0, 0), 32 * y + x);
        Edge.due("into" + at, w.wedge(0, into[0], into[1], into[2], into[3]), 1);
        Edge.due("PLACES into" + at, w.sender(0, 7), 1024);
        Edge.due("the first" + at, w.place(0, 0), 0);
        Edge.due("the last" + at, w.place(0, 1023), 1023);
        Edge.due("behind the last" + at, w.place(0, 1024), NONE);
    }

    private static void corners() {
        corner(0, 0, new int[] {-1, 0, -1, -1}, new int[] {1, 0, 0, 1});
        corner(31, 0, new int[] {0, -1, 1, -1}, new int[] {0, 1, -1, 0});
        corner(0, 31, new int[] {0, 1, -1, 1}, new int[] {0, -1, 1, 0});
        corner(31, 31, new int[] {1, 0, 1, 1}, new int[] {-1, 0, 0, -1});
    }

    private static void minutes() {
        Edge.sentence("MINUTES 0 .. 9999.");
        Edge.range("listened(0, 3, v, 9999)", 0, 9999, Scenes::ears, (w, v) -> w.listened(0, 3, v, 9999));
        Edge.range("listened(0, 3, 0, v)", 0, 9999, Scenes::ears, (w, v) -> w.listened(0, 3, 0, v));
        Edge.range("listened(0, 3, v, v)", 0, 9999, Scenes::ears, (w, v) -> w.listened(0, 3, v, v));
        Edge.range("mark(0, 3, v, 9999, 7)", 0, 9999, Scenes::ears, (w, v) -> w.mark(0, 3, v, 9999, 7));
        Edge.range("mark(0, 3, 0, v, 7)", 0, 9999, Scenes::ears, (w, v) -> w.mark(0, 3, 0, v, 7));
        Edge.range("mark(0, 3, v, v, 7)", 0, 9999, Scenes::ears, (w, v) -> w.mark(0, 3, v, v, 7));
        for (int what = 0; what < 3; what++) {
            int asked = what;
            Edge.range("minutes(3, v, 9999, " + what + ")", 0, 9999, Scenes::some,
                    (w, v) -> w.minutes(3, v, 9999, asked));
            Edge.range("minutes(3, 0, v, " + what + ")", 0, 9999, Scenes::some,
                    (w, v) -> w.minutes(3, 0, v, asked));
        }
        Edge.range("blind(3, v, 9999)", 0, 9999, Scenes::some, (w, v) -> w.blind(3, v, 9999));
        Edge.range("blind(3, 0, v)", 0, 9999, Scenes::some, (w, v) -> w.blind(3, 0, v));
        Edge.range("sweep(8, v, 1, 1)", 0, 9999, Scenes::some, (w, v) -> w.sweep(8, v, 1, 1));
    }

    private static void channels() {
        Edge.sentence("CHANNELS 0 .. 15.");
        Edge.range("listened(0, v, 0, 9)", 0, 15, Scenes::ears, (w, v) -> w.listened(0, v, 0, 9));
        Edge.range("mark(0, v, 0, 9, 7)", 0, 15, Scenes::ears, (w, v) -> w.mark(0, v, 0, 9, 7));
        Edge.range("minutes(v, 0, 9, 2)", 0, 15, Scenes::some, (w, v) -> w.minutes(v, 0, 9, 2));
        Edge.range("blind(v, 0, 9)", 0, 15, Scenes::some, (w, v) -> w.blind(v, 0, 9));
        for (int channel = 0; channel < 16; channel++) {
            Watch w = Scenes.ears();
            Edge.due("sweep of CHANNEL " + channel + " alone", w.sweep(1 << channel, 50, 1, 1), 1);
            Edge.due("its slot", w.slot(0), channel);
            w.mark(0, channel, 3, 4, 0);
            Edge.due("sender's CHANNEL " + channel, w.sender(0, 2), channel);
            for (int other = 0; other < 16; other++) {
                Edge.due("HEARD on " + other + " by a MARK on " + channel,
                        w.minutes(other, 0, 9999, 0), other == channel ? 2 : 0);
            }
        }
        for (int bit = 16; bit < 32; bit++) {
            int above = 1 << bit;
            Edge.refused("sweep of bit " + bit, Scenes::some, w -> w.sweep(above, 50, 1, 1));
            Edge.refused("sweep of bits 0, " + bit, Scenes::some, w -> w.sweep(above | 1, 50, 1, 1));
        }
    }

    private static void posts() {
        Edge.sentence("POSTS 0 .. 5, each on a FIELD.");
        Edge.range("listened(v, 3, 0, 9)", 0, 5, Scenes::sixPosts, (w, v) -> w.listened(v, 3, 0, 9));
        Edge.range("mark(v, 3, 0, 9, 7)", 0, 5, Scenes::sixPosts, (w, v) -> w.mark(v, 3, 0, 9, 7));
        Edge.range("listened(v, 3, 0, 9) of three POSTS", 0, 2, Scenes::some, (w, v) -> w.listened(v, 3, 0, 9));
        Edge.range("mark(v, 3, 910, 920, 7) of three POSTS", 0, 2, Scenes::some,
                (w, v) -> w.mark(v, 3, 910, 920, 7));
        Edge.refused("listened without POSTS", Scenes::empty, w -> w.listened(0, 0, 0, 0));
        Edge.refused("mark without POSTS", Scenes::empty, w -> w.mark(0, 0, 0, 0, 0));
        Edge.refused("a seventh POST", Scenes::sixPosts, w -> w.post(3, 3));
        Edge.refused("a seventh POST, all full", Scenes::full, w -> w.post(3, 3));
    }

    private static void listenedBothEnds() {
        Edge.sentence("LISTENED: a POST on a CHANNEL from a MINUTE to one (both too; up to 100 such).");
        Watch w = Scenes.empty();
        w.post(0, 0);
        Edge.due("listened(0, 3, 10, 19)", w.listened(0, 3, 10, 19), 1);
        Edge.due("ahead of it", w.minutes(3, 9, 9, 1), 0);
        Edge.due("its first MINUTE", w.minutes(3, 10, 10, 1), 1);
        Edge.due("its last MINUTE", w.minutes(3, 19, 19, 1), 1);
        Edge.due("behind it", w.minutes(3, 20, 20, 1), 0);
        Edge.due("one MINUTE alone", w.listened(0, 3, 50, 50), 2);
        Edge.due("that one", w.minutes(3, 49, 51, 1), 1);
        Edge.refused("from a MINUTE to one ahead of it", Scenes::ears, v -> v.listened(0, 3, 10, 9));
        Edge.refused("from the last to the first", Scenes::ears, v -> v.listened(0, 3, 9999, 0));
    }

    private static Watch listenedTimes(int times) {
        Watch w = Scenes.empty();
        w.post(0, 0);
        for (int i = 0; i < times; i++) {
            w.listened(0, 3, 2 * i, 2 * i);
        }
        return w;
    }

    private static void listenedUpToHundred() {
        Edge.due("the first", listenedTimes(0).listened(0, 3, 0, 0), 1);
        Edge.due("the 99th", listenedTimes(98).listened(0, 3, 0, 0), 99);
        Edge.due("the 100th", listenedTimes(99).listened(0, 3, 0, 0), 100);
        Edge.due("100 of one MINUTE each", listenedTimes(100).minutes(3, 0, 9999, 1), 100);
        Edge.due("the 100th counts", listenedTimes(100).mark(0, 3, 198, 198, 0), 0);
        Edge.refused("the 101st", () -> listenedTimes(100), w -> w.listened(0, 3, 1, 1));
        Edge.refused("the 101st, all full", Scenes::full, w -> w.listened(0, 3, 1, 1));
        Watch w = listenedTimes(100);
        w.listened(0, 3, 201, 300);
        Edge.due("the 101st isn't SILENT", w.minutes(3, 201, 300, 1), 0);
        Edge.due("the 101st holds no MARK", w.mark(0, 3, 201, 201, 0), NONE);
        Edge.due("the 101st has no AGE", w.sweep(8, 500, 1, 1), 500 - 198);
    }

    private static Watch marksTimes(int times) {
        Watch w = Scenes.ears();
        for (int i = 0; i < times; i++) {
            w.mark(0, 3, 20 * i, 20 * i, 7);
        }
        return w;
    }

    private static void marksUpToSixty() {
        Edge.sentence("MARKS 0 .. 59");
        Edge.due("the first", marksTimes(0).mark(0, 3, 0, 0, 0), 0);
        Edge.due("the 59th", marksTimes(58).mark(0, 3, 0, 0, 0), 58);
        Edge.due("the 60th", marksTimes(59).mark(0, 3, 0, 0, 0), 59);
        Edge.due("60 SENDERS", marksTimes(60).senders(), 60);
        Edge.due("the last one's", marksTimes(60).senderOf(59), 59);
        Edge.due("60 MINUTES HEARD", marksTimes(60).minutes(3, 0, 9999, 0), 60);
        Edge.refused("the 61st", () -> marksTimes(60), w -> w.mark(0, 3, 1200, 1200, 7));
        Edge.refused("the 61st, all full", Scenes::full, w -> w.mark(0, 0, 900, 900, 7));
        Edge.rangeOrFalse("wedge(v, 1, 0, 0, 1) of 60", 0, 59, () -> marksTimes(60), (w, v) -> w.wedge(v, 1, 0, 0, 1));
        Edge.range("senderOf(v) of 60", 0, 59, () -> marksTimes(60), (w, v) -> w.senderOf(v));
        Edge.range("sender(v, 0) of 60", 0, 59, () -> marksTimes(60), (w, v) -> w.sender(v, 0));
    }

    private static void marksBothEnds() {
        Edge.sentence("what a POST heard on a CHANNEL from a MINUTE to one (both too");
        Watch w = Scenes.oneMark();
        Edge.due("ahead of it", w.minutes(3, 99, 99, 0), 0);
        Edge.due("its first MINUTE", w.minutes(3, 100, 100, 0), 1);
        Edge.due("its last MINUTE", w.minutes(3, 200, 200, 0), 1);
        Edge.due("behind it", w.minutes(3, 201, 201, 0), 0);
        Edge.due("one MINUTE alone", w.mark(0, 3, 400, 400, 7), 1);
        Edge.due("that one", w.minutes(3, 399, 401, 0), 1);
        Edge.refused("from a MINUTE to one ahead of it", Scenes::ears, v -> v.mark(0, 3, 10, 9, 7));
        Edge.refused("from the last to the first", Scenes::ears, v -> v.mark(0, 3, 9999, 0, 7));
    }

    /** LISTENED on CHANNEL 3 from 10 to 30, but for 20; others did all of it, and POST 0 elsewhere. */
    private static Watch withAHole() {
        Watch w = Scenes.empty();
        w.post(1, 1);
        w.post(2, 2);
        w.listened(0, 3, 21, 30);
        w.listened(0, 3, 10, 19);
        w.listened(1, 3, 0, 99);
        w.listened(0, 4, 0, 99);
        return w;
    }

    private static void listenedInEach() {
        Edge.sentence("it LISTENED there in each of these");
        int[][] taken = {{10, 19}, {21, 30}, {10, 10}, {19, 19}, {21, 21}, {30, 30}};
        for (int[] t : taken) {
            Edge.due("mark from " + t[0] + " to " + t[1], withAHole().mark(0, 3, t[0], t[1], 7), 0);
        }
        int[][] wrong = {{9, 9}, {9, 10}, {9, 19}, {19, 20}, {20, 20}, {20, 21}, {19, 21}, {10, 20},
            {20, 30}, {10, 30}, {30, 31}, {31, 31}, {21, 31}, {0, 99}, {0, 9999}};
        for (int[] t : wrong) {
            Edge.refused("mark from " + t[0] + " to " + t[1], LandEdgesTest::withAHole,
                    w -> w.mark(0, 3, t[0], t[1], 7));
        }
        Edge.due("the other POST", withAHole().mark(1, 3, 0, 99, 7), 0);
        Edge.due("the other CHANNEL", withAHole().mark(0, 4, 0, 99, 7), 0);
        Watch w = withAHole();
        w.listened(0, 3, 20, 20);
        Edge.due("without the hole", w.mark(0, 3, 10, 30, 7), 0);
        Edge.due("a MINUTE more", w.mark(0, 3, 10, 31, 7), NONE);
        Edge.due("a MINUTE earlier", w.mark(0, 3, 9, 30, 7), NONE);
        Edge.refused("never LISTENED", LandEdgesTest::withAHole, v -> v.mark(0, 5, 10, 10, 7));
    }

    private static void tones() {
        Edge.sentence("a TONE (0 .. 999)");
        Edge.range("mark(0, 3, 0, 9, v)", 0, 999, Scenes::ears, (w, v) -> w.mark(0, 3, 0, 9, v));
        Edge.range("mark(0, 3, 0, 9, v) in some", 0, 999, Scenes::some, (w, v) -> w.mark(0, 3, 0, 9, v));
        for (int tone : new int[] {0, 999}) {
            Watch w = Scenes.ears();
            w.mark(0, 3, 0, 9, tone);
            Edge.due("least TONE " + tone, w.sender(0, 5), tone);
            Edge.due("greatest TONE " + tone, w.sender(0, 6), tone);
        }
    }

    private static void wedgeSides() {
        Edge.sentence("two directions (dx, dy), each of -100 .. 100");
        Edge.rangeOrFalse("wedge(0, v, 1, -1, 0)", -100, 100, Scenes::oneMark, (w, v) -> w.wedge(0, v, 1, -1, 0));
        Edge.rangeOrFalse("wedge(0, 1, v, 0, 1)", -100, 100, Scenes::oneMark, (w, v) -> w.wedge(0, 1, v, 0, 1));
        Edge.rangeOrFalse("wedge(0, 1, 0, v, 1)", -100, 100, Scenes::oneMark, (w, v) -> w.wedge(0, 1, 0, v, 1));
        Edge.rangeOrFalse("wedge(0, 0, 1, -1, v)", -100, 100, Scenes::oneMark, (w, v) -> w.wedge(0, 0, 1, -1, v));
        // A refused WEDGE leaves the one that there was.
        Edge.rangeOrFalse("wedge(2, v, 1, -1, 0) again", -100, 100, Scenes::some, (w, v) -> w.wedge(2, v, 1, -1, 0));
    }

    private static void wedgeNotBothZero() {
        Edge.sentence("each of -100 .. 100, not both 0");
        Edge.denied("no first direction", Scenes::oneMark, w -> w.wedge(0, 0, 0, 0, 1));
        Edge.denied("no second direction", Scenes::oneMark, w -> w.wedge(0, 1, 0, 0, 0));
        Edge.denied("no direction", Scenes::some, w -> w.wedge(0, 0, 0, 0, 0));
        Edge.due("dx 0 alone, dy 0 alone", Scenes.oneMark().wedge(0, 1, 0, 0, 1), 1);
        Edge.due("dy 0 alone, dx 0 alone", Scenes.oneMark().wedge(0, 0, 1, -1, 0), 1);
    }

    private static void wedgeTurn() {
        Edge.sentence("turned from the first by less than half a turn to the left (dx1 dy2 - dy1 dx2 above 0)");
        int[][] taken = {{1, 0, 0, 1}, {100, 99, 1, 1}, {100, -100, 100, 100}, {100, 0, -100, 1},
            {-100, 0, 100, -1}, {0, 100, -1, -100}, {-100, -100, 100, -100}, {100, 99, 99, 99}};
        for (int[] d : taken) {
            Edge.due("wedge " + d[0] + " " + d[1] + " " + d[2] + " " + d[3],
                    Scenes.oneMark().wedge(0, d[0], d[1], d[2], d[3]), 1);
        }
        int[][] wrong = {{1, 0, 1, 0}, {1, 0, 2, 0}, {3, 4, 6, 8}, {1, 0, -1, 0}, {3, 4, -3, -4},
            {-100, 100, 100, -100}, {0, 1, 1, 0}, {1, 1, 100, 99}, {100, 100, 100, -100},
            {100, 1, -100, -2}, {100, 0, -100, -1}};
        for (int[] d : wrong) {
            String call = "wedge " + d[0] + " " + d[1] + " " + d[2] + " " + d[3];
            Edge.denied(call, Scenes::oneMark, w -> w.wedge(0, d[0], d[1], d[2], d[3]));
            Edge.denied(call + " in some", Scenes::some, w -> w.wedge(0, d[0], d[1], d[2], d[3]));
        }
    }

    /** A POST at (x, y) whose only MARK has this WEDGE. */
    private static Watch wedged(int x, int y, int... d) {
        Watch w = new Watch();
        w.post(x, y);
        w.listened(0, 0, 0, 0);
        w.mark(0, 0, 0, 0, 0);
        Edge.due("wedge from (" + x + ", " + y + ")", w.wedge(0, d[0], d[1], d[2], d[3]), 1);
        return w;
    }

    /** The PLACES of the first SENDER are these FIELDS alone, told as x, y, x, y. */
    private static void duePlaces(String name, Watch w, int... fields) {
        Edge.due(name + ": PLACES", w.sender(0, 7), fields.length / 2);
        for (int i = 0; i < fields.length / 2; i++) {
            Edge.due(name + ": place(0, " + i + ")", w.place(0, i), 32 * fields[2 * i + 1] + fields[2 * i]);
        }
        Edge.due(name + ": no more", w.place(0, fields.length / 2), NONE);
    }

    private static void liesInQuarters() {
        Edge.sentence("dx1 vy - dy1 vx and vx dy2 - vy dx2 are both 0 or above");
        duePlaces("right, up", wedged(30, 30, 1, 0, 0, 1), 30, 30, 31, 30, 30, 31, 31, 31);
        duePlaces("up, left", wedged(1, 30, 0, 1, -1, 0), 0, 30, 1, 30, 0, 31, 1, 31);
        duePlaces("left, down", wedged(1, 1, -1, 0, 0, -1), 0, 0, 1, 0, 0, 1, 1, 1);
        duePlaces("down, right", wedged(30, 1, 0, -1, 1, 0), 30, 0, 31, 0, 30, 1, 31, 1);
        // Nearly half a turn: the first ray is in it, the way back along it is not.
        duePlaces("above", wedged(30, 31, 100, 0, -100, 1), 30, 31, 31, 31);
        duePlaces("below", wedged(1, 0, -100, 0, 100, -1), 0, 0, 1, 0);
        duePlaces("above, the second ray", wedged(1, 31, 100, 1, -100, 0), 0, 31, 1, 31);
        duePlaces("below, the second ray", wedged(30, 0, -100, -1, 100, 0), 30, 0, 31, 0);
    }

    private static void liesInSlanted() {
        duePlaces("on both rays", wedged(28, 28, 3, 1, 1, 3), 28, 28, 29, 29, 30, 29, 31, 29,
                29, 30, 30, 30, 31, 30, 29, 31, 30, 31, 31, 31);
        duePlaces("a little narrower", wedged(28, 28, 100, 34, 34, 100), 28, 28, 29, 29, 30, 29,
                29, 30, 30, 30, 31, 30, 30, 31, 31, 31);
        duePlaces("a little wider", wedged(28, 28, 100, 33, 33, 100), 28, 28, 29, 29, 30, 29, 31, 29,
                29, 30, 30, 30, 31, 30, 29, 31, 30, 31, 31, 31);
        duePlaces("a ray alone", wedged(29, 29, 100, 99, 99, 99), 29, 29, 30, 30, 31, 31);
        duePlaces("between all FIELDS", wedged(0, 0, 33, 32, 100, 97), 0, 0);
        Edge.due("the whole diagonal", wedged(0, 0, 100, 100, 99, 100).sender(0, 7), 32);
        Edge.due("its last FIELD", wedged(0, 0, 100, 100, 99, 100).place(0, 31), 1023);
    }

    private static void ownField() {
        Edge.sentence("the POST's own FIELD does");
        duePlaces("out of the land", wedged(31, 7, 100, -1, 100, 1), 31, 7);
        duePlaces("between the FIELDS", wedged(29, 29, 100, 40, 100, 41), 29, 29);
        Watch w = Scenes.empty();
        w.post(0, 0);
        w.post(31, 31);
        w.listened(0, 0, 0, 0);
        w.listened(1, 0, 0, 0);
        w.mark(0, 0, 0, 0, 0);
        w.mark(1, 0, 0, 0, 0);
        w.wedge(0, 1, 0, 0, 1);
        w.wedge(1, 1, 0, 1, 1);
        duePlaces("in another's WEDGE too", w, 31, 31);
        w.wedge(0, -1, 0, -1, -1);
        duePlaces("each its own alone", w);
    }

    /** SENDERS of a MARK on 3, from 1000 to 1100 with TONE 500, and another one. */
    private static int pair(int channel, int from, int to, int tone, Setting setting) {
        Watch w = Scenes.ears();
        setting.set(w);
        w.mark(0, 3, 1000, 1100, 500);
        w.mark(0, channel, from, to, tone);
        int together = w.senders();
        Watch turned = Scenes.ears();
        turned.mark(0, channel, from, to, tone);
        turned.mark(0, 3, 1000, 1100, 500);
        setting.set(turned);
        Edge.due("told the other way round", turned.senders(), together);
        return together;
    }

    /** SHARP and GAP, or what they are at first. */
    private interface Setting {
        void set(Watch w);
    }

    private static Setting set(int sharp, int gap) {
        return w -> Edge.due("joins(" + sharp + ", " + gap + ")", w.joins(sharp, gap), 1);
    }

    private static final Setting AT_FIRST = w -> { };

    private static void joinChannel() {
        Edge.sentence("two MARKS JOIN if they are of one CHANNEL");
        Edge.due("of one", pair(3, 1000, 1100, 500, AT_FIRST), 1);
        Edge.due("one above", pair(4, 1000, 1100, 500, set(99, 999)), 2);
        Edge.due("one below", pair(2, 1000, 1100, 500, set(99, 999)), 2);
    }

    private static void joinSharp() {
        Edge.sentence("their TONES differ by SHARP at most (0 .. 99, at first 5)");
        for (int sharp : new int[] {0, 1, 98, 99}) {
            for (int sign = -1; sign <= 1; sign += 2) {
                Edge.due("by " + sign * sharp, pair(3, 1000, 1100, 500 + sign * sharp, set(sharp, 10)), 1);
                Edge.due("by " + sign * (sharp + 1), pair(3, 1000, 1100, 500 + sign * (sharp + 1), set(sharp, 10)), 2);
            }
        }
        Edge.due("at first, by 5", pair(3, 1000, 1100, 505, AT_FIRST), 1);
        Edge.due("at first, by 6", pair(3, 1000, 1100, 506, AT_FIRST), 2);
        Edge.due("at first, by -5", pair(3, 1000, 1100, 495, AT_FIRST), 1);
        Edge.due("at first, by -6", pair(3, 1000, 1100, 494, AT_FIRST), 2);
        Edge.due("the furthest apart", pair(3, 1000, 1100, 0, set(99, 999)), 2);
        Edge.rangeOrFalse("joins(v, 10)", 0, 99, Scenes::some, (w, v) -> w.joins(v, 10));
        Edge.rangeOrFalse("joins(v, 10) at first", 0, 99, Scenes::empty, (w, v) -> w.joins(v, 10));
    }

    private static void joinGap() {
        Edge.sentence("from the end of the one to the beginning of the other are at most GAP MINUTES (0 .. 999, at first 10");
        for (int gap : new int[] {0, 1, 998, 999}) {
            Edge.due("behind, " + gap, pair(3, 1100 + gap, 2500, 500, set(5, gap)), 1);
            Edge.due("behind, one more than " + gap, pair(3, 1101 + gap, 2500, 500, set(5, gap)), 2);
            Edge.due("ahead, " + gap, pair(3, 0, 1000 - gap, 500, set(5, gap)), 1);
            Edge.due("ahead, one more than " + gap, pair(3, 0, 999 - gap, 500, set(5, gap)), 2);
        }
        Edge.due("at first, behind, 10", pair(3, 1110, 1110, 500, AT_FIRST), 1);
        Edge.due("at first, behind, 11", pair(3, 1111, 1111, 500, AT_FIRST), 2);
        Edge.due("at first, ahead, 10", pair(3, 990, 990, 500, AT_FIRST), 1);
        Edge.due("at first, ahead, 11", pair(3, 989, 989, 500, AT_FIRST), 2);
        Edge.rangeOrFalse("joins(5, v)", 0, 999, Scenes::some, (w, v) -> w.joins(5, v));
        Edge.rangeOrFalse("joins(5, v) at first", 0, 999, Scenes::empty, (w, v) -> w.joins(5, v));
    }

    private static void joinAtOneTime() {
        Edge.sentence("also if they are at one time");
        int[][] times = {{1000, 1100}, {1050, 1060}, {0, 9999}, {1000, 1000}, {1100, 1100},
            {500, 1000}, {1100, 3000}, {500, 1050}, {1050, 3000}};
        for (int[] t : times) {
            Edge.due("from " + t[0] + " to " + t[1], pair(3, t[0], t[1], 500, set(0, 0)), 1);
            Edge.due("TONE apart, from " + t[0] + " to " + t[1], pair(3, t[0], t[1], 501, set(0, 0)), 2);
        }
    }

    private static void oneByOne() {
        Edge.sentence("A SENDER: MARKS that come together by JOINS, one by one");
        Watch w = Scenes.ears();
        for (int i = 0; i < 30; i++) {
            w.mark(0, 3, 0, 0, 12 * i);
        }
        Edge.due("30 apart", w.senders(), 30);
        for (int i = 0; i < 29; i++) {
            w.mark(0, 3, 0, 0, 12 * i + 6);
        }
        Edge.due("59 apart by 6", w.senders(), 59);
        w.joins(6, 10);
        Edge.due("a chain of 59", w.senders(), 1);
        Edge.due("its MARKS", w.sender(0, 1), 59);
        Edge.due("its greatest TONE", w.sender(0, 6), 348);
        w.joins(5, 10);
        Edge.due("apart again", w.senders(), 59);
        Watch late = Scenes.ears();
        late.mark(0, 3, 0, 10, 7);
        late.mark(0, 3, 30, 40, 7);
        Edge.due("20 MINUTES apart", late.senders(), 2);
        late.mark(0, 3, 20, 20, 7);
        Edge.due("one between", late.senders(), 1);
        Edge.due("from the first", late.sender(0, 3), 0);
        Edge.due("to the last", late.sender(0, 4), 40);
    }

    private static void leastMarks() {
        Edge.sentence("SENDERS are numbered by their least MARKS");
        Watch w = Scenes.ears();
        int[] tones = {900, 100, 500, 300, 510, 310};
        for (int tone : tones) {
            w.mark(0, 3, 0, 0, tone);
        }
        dueSenders("all apart", w, 0, 1, 2, 3, 4, 5);
        w.joins(10, 10);
        dueSenders("two pairs", w, 0, 1, 2, 3, 2, 3);
        Edge.due("least MARK of 2", w.sender(2, 0), 2);
        Edge.due("least MARK of 3", w.sender(3, 0), 3);
        w.mark(0, 3, 0, 0, 905);
        dueSenders("one more with the first", w, 0, 1, 2, 3, 2, 3, 0);
        w.mark(0, 15, 0, 0, 905);
        dueSenders("a new one last", w, 0, 1, 2, 3, 2, 3, 0, 4);
        w.joins(0, 10);
        dueSenders("all apart again", w, 0, 1, 2, 3, 4, 5, 6, 7);
    }

    private static void dueSenders(String name, Watch w, int... numbers) {
        for (int mark = 0; mark < numbers.length; mark++) {
            Edge.due(name + ", senderOf(" + mark + ")", w.senderOf(mark), numbers[mark]);
        }
    }

    private static void places() {
        Edge.sentence("PLACES of a SENDER: FIELDS that LIE IN the WEDGES of all its MARKS that have one (all 1,024 if none has).");
        Watch w = Scenes.ears();
        w.post(30, 30);
        w.listened(1, 3, 0, 9999);
        w.mark(0, 3, 0, 0, 7);
        w.mark(1, 3, 0, 0, 7);
        w.mark(0, 4, 0, 0, 7);
        Edge.due("none has", w.sender(0, 7), 1024);
        w.wedge(2, 1, 0, 0, 1);
        Edge.due("another SENDER's has", w.sender(0, 7), 1024);
        w.wedge(1, 1, 0, 0, 1);
        duePlaces("one of two has", w, 30, 30, 31, 30, 30, 31, 31, 31);
        w.wedge(0, 1, 1, 0, 1);
        duePlaces("both have", w, 30, 30, 30, 31, 31, 31);
        w.wedge(0, -1, 0, 0, -1);
        duePlaces("none in both", w);
        Edge.due("a new MARK has none", w.mark(1, 3, 0, 0, 7), 3);
        duePlaces("still none in both", w);
        Edge.due("the other SENDER's", w.sender(1, 7), 27 * 27);
        w.wedge(0, 1, 0, 0, 1);
        duePlaces("as one of two has", w, 30, 30, 31, 30, 30, 31, 31, 31);
    }
}
