import java.util.function.Supplier;

/** The edges that the promises themselves name: empty, full, refused, the latest, none such. */
public final class PromiseEdgesTest {
    private static final int NONE = Edge.NONE;

    private PromiseEdgesTest() {
    }

    public static void main(String[] args) {
        newObject();
        constants();
        post();
        listened();
        mark();
        wedge();
        joins();
        senders();
        senderOf();
        sender();
        place();
        box();
        minutes();
        blind();
        feed();
        feedOrder();
        end();
        licence();
        licenceWithFault();
        fault();
        faultOfLatest();
        fits();
        best();
        wanderers();
        sweep();
        slot();
        about();
        questionsChangeNothing();
        lastCall();
        Check.finish();
    }

    // Promise 1
    private static void newObject() {
        Edge.sentence("No POSTS, MARKS, LICENCES.");
        Watch w = Scenes.empty();
        int[] counts = {0, 0, 0, 0, 5, 10, 0, 0};
        for (int what = 0; what < 8; what++) {
            Edge.due("about(" + what + ")", w.about(what), counts[what]);
        }
        Edge.due("senders()", w.senders(), 0);
        Edge.due("senderOf(0)", w.senderOf(0), NONE);
        for (int what = 0; what < 9; what++) {
            Edge.due("sender(0, " + what + ")", w.sender(0, what), NONE);
        }
        Edge.due("place(0, 0)", w.place(0, 0), NONE);
        Edge.due("box(0, 0)", w.box(0, 0), NONE);
        Edge.due("wedge(0, ..)", w.wedge(0, 1, 0, 0, 1), 0);
        Edge.due("fits(0, 0)", w.fits(0, 0), NONE);
        Edge.due("best(0, 0)", w.best(0, 0), NONE);
        Edge.due("best(0, 1)", w.best(0, 1), NONE);
        Edge.due("wanderers()", w.wanderers(), 0);
        Edge.due("fault(0)", w.fault(0), NONE);
        Edge.due("fault(1)", w.fault(1), NONE);
        Edge.due("slot(0)", w.slot(0), NONE);
        for (int channel = 0; channel < 16; channel++) {
            Edge.due("UNSEEN on " + channel, w.minutes(channel, 0, 9999, 2), 10000);
            Edge.due("blind on " + channel, w.blind(channel, 0, 9999), 10000);
        }
        // Objects know nothing of each other.
        Watch other = Scenes.full();
        View.whole(Scenes.empty()).dueAs("a new object beside a full one", View.whole(Scenes.empty()));
        Edge.due("the full one has its own", other.about(0), 6);
    }

    private static void constants() {
        Edge.sentence("`NONE = -1`: None.");
        Edge.due("NONE", AirWatch.NONE, -1);
    }

    // Promise 2
    private static void post() {
        Edge.sentence("A POST: its number. NONE for others, or if there are 6.");
        Watch w = Scenes.empty();
        for (int i = 0; i < 6; i++) {
            Edge.due("a wrong one between", w.post(32, i), NONE);
            Edge.due("POSTS ahead", w.about(0), i);
            Edge.due("POST " + i, w.post(31, 31), i);
            Edge.due("POSTS behind", w.about(0), i + 1);
        }
        Edge.due("if there are 6", w.post(0, 0), NONE);
        Edge.due("again", w.post(0, 0), NONE);
        Edge.due("still 6", w.about(0), 6);
        Edge.refused("wrong, and there are 6", Scenes::full, v -> v.post(-1, 32));
        Edge.refused("both wrong", Scenes::some, v -> v.post(-1, 32));
    }

    // Promise 3
    private static void listened() {
        Edge.sentence("LISTENED: how many there are. NONE for others, or if there are 100.");
        Watch w = Scenes.empty();
        w.post(0, 0);
        for (int i = 1; i <= 100; i++) {
            Edge.due("a wrong one between", w.listened(0, 16, 0, 0), NONE);
            Edge.due("listened " + i, w.listened(0, i % 16, 7, 7), i);
        }
        Edge.due("if there are 100", w.listened(0, 0, 0, 0), NONE);
        Edge.due("still 100", w.about(1), 100);
        Edge.refused("wrong, and there are 100", Scenes::full, v -> v.listened(6, 16, -1, 10000));
        Edge.refused("all wrong", Scenes::some, v -> v.listened(6, 16, -1, 10000));
    }

    // Promise 4
    private static void mark() {
        Edge.sentence("A MARK without a WEDGE: its number. NONE for others, or if there are 60.");
        Watch w = Scenes.ears();
        for (int i = 0; i < 60; i++) {
            Edge.due("a wrong one between", w.mark(0, 3, 0, 0, 1000), NONE);
            Edge.due("mark " + i, w.mark(0, 3, 0, 0, 7), i);
        }
        Edge.due("without a WEDGE", w.about(7), 0);
        Edge.due("all FIELDS", w.sender(0, 7), 1024);
        Edge.due("if there are 60", w.mark(0, 3, 0, 0, 7), NONE);
        Edge.due("still 60", w.about(2), 60);
        Edge.due("of one SENDER", w.sender(0, 1), 60);
        Edge.refused("wrong, and there are 60", Scenes::full, v -> v.mark(6, 16, -1, 10000, 1000));
        Edge.refused("all wrong", Scenes::some, v -> v.mark(6, 16, -1, 10000, 1000));
    }

    // Promise 5
    private static void wedge() {
        Edge.sentence("The WEDGE of a MARK, in place of what it had: true. False for others.");
        Watch w = Scenes.oneMark();
        w.mark(0, 4, 0, 0, 0);
        Edge.due("the first WEDGE", w.wedge(0, 1, 0, 0, 1), 1);
        Edge.due("its PLACES", w.sender(0, 7), 27 * 27);
        Edge.due("in place of it", w.wedge(0, -1, 0, 0, -1), 1);
        Edge.due("not both", w.sender(0, 7), 6 * 6);
        Edge.due("as at first", w.wedge(0, 1, 0, 0, 1), 1);
        Edge.due("its PLACES again", w.sender(0, 7), 27 * 27);
        Edge.due("one MARK with a WEDGE", w.about(7), 1);
        Edge.due("the other has none", w.sender(1, 7), 1024);
        Edge.due("the other's", w.wedge(1, 1, 0, 0, 1), 1);
        Edge.due("two with a WEDGE", w.about(7), 2);
        Edge.rangeOrFalse("wedge(v, 1, 0, 0, 1) of 5", 0, 4, Scenes::some, (v, mark) -> v.wedge(mark, 1, 0, 0, 1));
        Edge.denied("without MARKS", Scenes::empty, v -> v.wedge(0, 1, 0, 0, 1));
        Edge.denied("without MARKS, with a POST", Scenes::ears, v -> v.wedge(0, 1, 0, 0, 1));
        Edge.denied("no such MARK, all full", Scenes::full, v -> v.wedge(60, 1, 0, 0, 1));
        Edge.denied("none again, in place of one", Scenes::some, v -> v.wedge(0, 0, 0, 0, 0));
    }

    // Promise 6
    private static void joins() {
        Edge.sentence("SHARP, GAP: true. False, changing nothing, for others.");
        int[][] taken = {{0, 0}, {99, 999}, {0, 999}, {99, 0}, {5, 10}};
        for (int[] t : taken) {
            Watch w = Scenes.some();
            Edge.due("joins(" + t[0] + ", " + t[1] + ")", w.joins(t[0], t[1]), 1);
            Edge.due("SHARP", w.about(4), t[0]);
            Edge.due("GAP", w.about(5), t[1]);
        }
        int[][] wrong = {{-1, 5}, {100, 5}, {5, -1}, {5, 1000}, {-1, -1}, {100, 1000}, {0, 1000}, {99, -1},
            {-1, 0}, {100, 999}, {Edge.LOW, Edge.HIGH}, {Edge.HIGH, Edge.LOW}};
        for (int[] t : wrong) {
            String call = "joins(" + t[0] + ", " + t[1] + ")";
            Edge.denied(call + " at first", Scenes::empty, w -> w.joins(t[0], t[1]));
            Edge.denied(call, Scenes::some, w -> w.joins(t[0], t[1]));
            Edge.denied(call + ", all full", Scenes::full, w -> w.joins(t[0], t[1]));
        }
    }

    // Promise 7
    private static void senders() {
        Edge.sentence("How many SENDERS.");
        Edge.due("nothing yet", Scenes.empty().senders(), 0);
        Edge.due("POSTS alone", Scenes.ears().senders(), 0);
        Edge.due("one MARK", Scenes.oneMark().senders(), 1);
        Watch w = Scenes.ears();
        for (int i = 0; i < 60; i++) {
            w.mark(0, 3, 0, 0, 6 * i);
        }
        Edge.due("60 MARKS apart", w.senders(), 60);
        w.joins(6, 0);
        Edge.due("60 MARKS together", w.senders(), 1);
    }

    // Promise 8
    private static void senderOf() {
        Edge.sentence("The SENDER of a MARK. NONE: there is none such.");
        Edge.range("senderOf(v) of 5", 0, 4, Scenes::some, (w, v) -> w.senderOf(v));
        Edge.range("senderOf(v) of 1", 0, 0, Scenes::oneMark, (w, v) -> w.senderOf(v));
        Edge.range("senderOf(v) of 60", 0, 59, Scenes::full, (w, v) -> w.senderOf(v));
        Edge.refused("without MARKS", Scenes::empty, w -> w.senderOf(0));
        // More MARKS than SENDERS: the number of a MARK is asked for.
        Watch w = Scenes.oneMark();
        w.mark(0, 3, 100, 200, 500);
        Edge.due("the second MARK of one SENDER", w.senderOf(1), 0);
        Edge.due("no second SENDER", w.sender(1, 0), NONE);
    }

    // Promise 9
    private static void sender() {
        Edge.sentence("Of a SENDER: 0 its least MARK, 1 MARKS, 2 CHANNEL, 3 the first MINUTE, 4 the last one, "
                + "5, 6 the least and greatest TONE, 7 PLACES, 8 POSTS that heard it. NONE for others.");
        Edge.range("sender(0, v)", 0, 8, Scenes::some, (w, v) -> w.sender(0, v));
        for (int what = 0; what < 9; what++) {
            int asked = what;
            Edge.range("sender(v, " + what + ") of 4", 0, 3, Scenes::some, (w, v) -> w.sender(v, asked));
            Edge.refused("sender(0, " + what + ") without MARKS", Scenes::ears, w -> w.sender(0, asked));
        }
        Edge.refused("both wrong", Scenes::some, w -> w.sender(4, 9));
        Watch w = Scenes.some();
        int[] pair = {1, 2, 3, 520, 560, 100, 107, 1024, 1};
        for (int what = 0; what < 9; what++) {
            Edge.due("sender(1, " + what + ")", w.sender(1, what), pair[what]);
        }
        Watch six = Scenes.sixPosts();
        for (int post = 5; post >= 0; post--) {
            six.mark(post, 3, 0, 0, 7);
            six.mark(post, 3, 0, 0, 7);
            Edge.due("POSTS that heard it", six.sender(0, 8), 6 - post);
        }
        Watch ends = Scenes.ears();
        ends.joins(99, 999);
        ends.mark(0, 3, 0, 9999, 999);
        ends.mark(0, 3, 50, 60, 900);
        int[] extreme = {0, 2, 3, 0, 9999, 900, 999, 1024, 1};
        for (int what = 0; what < 9; what++) {
            Edge.due("from the first MINUTE to the last, " + what, ends.sender(0, what), extreme[what]);
        }
    }

    /** A SENDER with 4 PLACES, one with all and one with none. */
    private static Watch threeKinds() {
        Watch w = Scenes.empty();
        w.post(30, 30);
        w.post(0, 0);
        w.listened(0, 3, 0, 99);
        w.listened(1, 3, 0, 99);
        w.mark(0, 3, 0, 0, 0);
        w.mark(0, 3, 0, 0, 100);
        w.mark(0, 3, 0, 0, 200);
        w.mark(1, 3, 0, 0, 200);
        w.wedge(0, 1, 0, 0, 1);
        w.wedge(2, 1, 0, 0, 1);
        w.wedge(3, -1, 0, 0, -1);
        return w;
    }

    // Promise 10
    private static void place() {
        Edge.sentence("The i-th of its PLACES (by y, then x): 32 y + x. NONE if there is none such.");
        int[] four = {30 * 32 + 30, 30 * 32 + 31, 31 * 32 + 30, 31 * 32 + 31};
        for (int i = 0; i < 4; i++) {
            Edge.due("place(0, " + i + ")", threeKinds().place(0, i), four[i]);
        }
        Edge.range("place(0, v) of 4", 0, 3, PromiseEdgesTest::threeKinds, (w, v) -> w.place(0, v));
        Edge.range("place(1, v) of 1,024", 0, 1023, PromiseEdgesTest::threeKinds, (w, v) -> w.place(1, v));
        Edge.range("place(v, 0)", 0, 1, PromiseEdgesTest::threeKinds, (w, v) -> w.place(v, 0));
        for (int i : new int[] {-1, 0, 1, 1023, 1024}) {
            Edge.refused("place(2, " + i + ") of none", PromiseEdgesTest::threeKinds, w -> w.place(2, i));
        }
        Edge.refused("no such SENDER", PromiseEdgesTest::threeKinds, w -> w.place(3, 0));
        Edge.refused("without MARKS", Scenes::ears, w -> w.place(0, 0));
        for (int i : new int[] {0, 1, 31, 32, 33, 1022, 1023}) {
            Edge.due("all FIELDS, " + i, threeKinds().place(1, i), i);
        }
    }

    // Promise 11
    private static void box() {
        Edge.sentence("The least box with all its PLACES: 0 x from, 1 x to, 2 y from, 3 y to. NONE for others, and without PLACES.");
        Edge.range("box(0, v)", 0, 3, PromiseEdgesTest::threeKinds, (w, v) -> w.box(0, v));
        Edge.range("box(v, 0)", 0, 1, PromiseEdgesTest::threeKinds, (w, v) -> w.box(v, 0));
        for (int what = 0; what < 4; what++) {
            int asked = what;
            Edge.refused("no such SENDER, " + what, PromiseEdgesTest::threeKinds, w -> w.box(3, asked));
            Edge.refused("without PLACES, " + what, PromiseEdgesTest::threeKinds, w -> w.box(2, asked));
            Edge.refused("without MARKS, " + what, Scenes::ears, w -> w.box(0, asked));
            Edge.due("of four, " + what, threeKinds().box(0, what), 30 + what % 2);
            Edge.due("of all, " + what, threeKinds().box(1, what), 31 * (what % 2));
        }
        int[][] singles = {{0, 0}, {31, 0}, {0, 31}, {31, 31}, {7, 20}};
        for (int[] at : singles) {
            Watch w = Scenes.empty();
            w.post(at[0], at[1]);
            w.listened(0, 0, 0, 0);
            w.mark(0, 0, 0, 0, 0);
            w.mark(0, 0, 0, 0, 0);
            w.wedge(0, 1, 0, 0, 1);
            w.wedge(1, -1, 0, 0, -1);
            for (int what = 0; what < 4; what++) {
                Edge.due("one FIELD (" + at[0] + ", " + at[1] + "), " + what, w.box(0, what), at[what / 2]);
            }
        }
    }

    // Promise 12
    private static void minutes() {
        Edge.sentence("Of a CHANNEL from a MINUTE to one (both too): how many MINUTES are HEARD (what 0), SILENT (1), "
                + "UNSEEN (2). NONE for others.");
        Edge.range("minutes(3, 0, 99, v)", 0, 2, Scenes::some, (w, v) -> w.minutes(3, 0, 99, v));
        Edge.range("minutes(3, 0, 99, v) at first", 0, 2, Scenes::empty, (w, v) -> w.minutes(3, 0, 99, v));
        int[][] turned = {{1, 0}, {9999, 0}, {9999, 9998}, {500, 499}};
        for (int[] t : turned) {
            for (int what = 0; what < 3; what++) {
                int asked = what;
                Edge.refused("from " + t[0] + " to " + t[1], Scenes::some, w -> w.minutes(3, t[0], t[1], asked));
            }
        }
        // HEARD from 100 to 200, LISTENED to from 0 to 999 and further.
        int[][] asked = {{100, 100, 1, 0}, {200, 200, 1, 0}, {99, 99, 0, 1}, {201, 201, 0, 1}, {99, 100, 1, 1},
            {200, 201, 1, 1}, {99, 201, 101, 2}, {100, 200, 101, 0}, {150, 160, 11, 0}, {0, 0, 0, 1},
            {1499, 1502, 0, 2}, {1500, 1500, 0, 1}, {1501, 1501, 0, 0}, {9999, 9999, 0, 0}};
        for (int[] a : asked) {
            Watch w = Scenes.some();
            String stretch = "from " + a[0] + " to " + a[1];
            Edge.due(stretch + ", HEARD", w.minutes(3, a[0], a[1], 0), a[2]);
            Edge.due(stretch + ", SILENT", w.minutes(3, a[0], a[1], 1), a[3]);
            Edge.due(stretch + ", UNSEEN", w.minutes(3, a[0], a[1], 2), a[1] - a[0] + 1 - a[2] - a[3]);
        }
    }

    // Promise 13
    private static void blind() {
        Edge.sentence("The longest row of UNSEEN MINUTES of a CHANNEL from a MINUTE to one; 0 without. NONE for others.");
        int[][] turned = {{1, 0}, {9999, 0}, {9999, 9998}, {500, 499}};
        for (int[] t : turned) {
            Edge.refused("from " + t[0] + " to " + t[1], Scenes::some, w -> w.blind(3, t[0], t[1]));
        }
        Watch w = Scenes.empty();
        w.post(0, 0);
        w.listened(0, 3, 10, 19);
        w.listened(0, 3, 30, 39);
        w.listened(0, 3, 60, 9989);
        w.mark(0, 3, 30, 39, 0);
        int[][] asked = {{0, 9999, 20}, {0, 59, 20}, {0, 58, 19}, {41, 9999, 19}, {0, 39, 10}, {0, 29, 10},
            {1, 28, 9}, {2, 27, 8}, {10, 19, 0}, {30, 39, 0}, {10, 20, 1}, {9, 19, 1}, {9, 20, 1}, {29, 40, 1},
            {20, 29, 10}, {45, 45, 1}, {60, 60, 0}, {60, 9989, 0}, {60, 9990, 1}, {60, 9999, 10}, {9999, 9999, 1},
            {0, 0, 1}};
        for (int[] a : asked) {
            Edge.due("from " + a[0] + " to " + a[1], w.blind(3, a[0], a[1]), a[2]);
        }
        Edge.due("LISTENED to all the time", Scenes.ears().blind(3, 0, 9999), 0);
        Edge.due("never", Scenes.empty().blind(3, 0, 9999), 10000);
        Edge.due("two that touch leave none", touching().blind(3, 10, 29), 0);
        Edge.due("on another CHANNEL", touching().blind(4, 10, 29), 20);
    }

    private static Watch touching() {
        Watch w = Scenes.empty();
        w.post(0, 0);
        w.post(1, 1);
        w.listened(1, 3, 20, 29);
        w.listened(0, 3, 10, 19);
        return w;
    }

    private static int feedBlanks(Watch w) {
        return w.feed(0x20202020, 0x20202020, 0x20202020, 0x20202020, 0x20202020);
    }

    private static Supplier<Watch> tapeOf(int bytes) {
        return () -> {
            Watch w = Scenes.some();
            w.text(" ".repeat(bytes));
            return w;
        };
    }

    // Promise 14
    private static void feed() {
        Edge.sentence("Twenty bytes come behind the tape, the highest of a first: how many it has. "
                + "NONE, and none come, if there would be more than 100.");
        Watch w = Scenes.empty();
        for (int i = 1; i <= 5; i++) {
            Edge.due("feed " + i, feedBlanks(w), 20 * i);
            Edge.due("it has", w.about(6), 20 * i);
        }
        Edge.due("a sixth", feedBlanks(w), NONE);
        Edge.due("it still has", w.about(6), 100);
        for (int bytes : new int[] {0, 1, 19, 20, 61, 79, 80}) {
            Edge.due("behind " + bytes, feedBlanks(tapeOf(bytes).get()), bytes + 20);
        }
        for (int bytes : new int[] {81, 82, 99, 100}) {
            Edge.refused("behind " + bytes, tapeOf(bytes), v -> v.feed(-1, -1, -1, -1, -1));
        }
        Edge.refused("behind a long text", Scenes::longTape, v -> v.feed(-1, -1, -1, -1, -1));
        Edge.refused("all full", Scenes::full, v -> v.feed(-1, -1, -1, -1, -1));
    }

    /** A byte that is no TOKEN, at each of the hundred in turn. */
    private static void feedOrder() {
        for (int at = 0; at < 100; at++) {
            Watch w = Scenes.empty();
            for (int fed = 0; fed < 100; fed += 20) {
                int[] five = new int[5];
                for (int i = 0; i < 20; i++) {
                    five[i / 4] = five[i / 4] << 8 | (fed + i == at ? 0xFF : 0x20);
                }
                w.feed(five[0], five[1], five[2], five[3], five[4]);
            }
            Edge.due("licence of byte " + at, w.licence(), NONE);
            Edge.due("its place", w.fault(1), at);
        }
        Watch w = Scenes.empty();
        w.feed(0x6368616E, 0x20313031, 0, 0, 0);
        w.end(7);
        w.feed(0x2D31353B, 0x20202020, 0x20202020, 0x20202020, 0x20202020);
        Edge.due("behind the tape", w.licence(), 0);
    }

    // Promise 15
    private static void end() {
        Edge.sentence("The tape has its first n bytes alone: n. NONE, and nothing is done, if it has not so many, or n is below 0.");
        for (int bytes : new int[] {0, 7, 20, 99, 100}) {
            Edge.range("end(v) of " + bytes, 0, bytes, tapeOf(bytes), (w, v) -> w.end(v));
            for (int n : new int[] {0, bytes / 2, bytes}) {
                Watch w = tapeOf(bytes).get();
                Edge.due("end(" + n + ") of " + bytes, w.end(n), n);
                Edge.due("bytes then", w.about(6), n);
            }
        }
        Edge.refused("end(101) of a full tape", Scenes::full, w -> w.end(101));
        Edge.refused("end(-1) of a full tape", Scenes::full, w -> w.end(-1));
        Edge.refused("end(1) of no tape", Scenes::empty, w -> w.end(1));
        Edge.refused("end(-1) of no tape", Scenes::empty, w -> w.end(-1));
        Watch w = Scenes.oneMark();
        w.text("chan 3-3;chan 4-4;");
        Edge.due("its first bytes", w.end(9), 9);
        Edge.due("are a LICENCE", w.licence(), 0);
        Edge.due("that FITS", w.fits(0, 0), 0);
        // What was cut off doesn't come back when bytes come behind the rest.
        w.text("chan 4-15;");
        w.end(6);
        feedBlanks(w);
        Edge.due("cut off", w.licence(), NONE);
        Edge.due("at the end", w.fault(1), 26);
    }

    // Promise 16
    private static void licence() {
        Edge.sentence("The tape (empty then) is a LICENCE: its number.");
        Watch w = Scenes.oneMark();
        for (int i = 0; i < 10; i++) {
            Edge.due("licence " + i, w.licence(i == 6 ? "chan 3-3;" : "chan 4-4;"), i);
            Edge.due("LICENCES", w.about(3), i + 1);
            Edge.due("empty then", w.about(6), 0);
        }
        for (int i = 0; i < 10; i++) {
            Edge.due("fits(0, " + i + ")", w.fits(0, i), i == 6 ? 0 : 1);
        }
        Edge.sentence("or (the tape stays) there are 10.");
        w.text("chan 3-3;");
        Edge.due("an eleventh", w.licence(), NONE);
        Edge.due("the tape stays", w.about(6), 9);
        Edge.due("bytes come behind it", feedBlanks(w), 29);
        Edge.due("still 10", w.about(3), 10);
        Edge.due("an empty tape", Scenes.empty().licence(), 0);
    }

    private static void licenceWithFault() {
        Edge.sentence("NONE: it has a FAULT");
        Watch w = Scenes.oneMark();
        w.licence("chan 3-3;");
        Edge.due("a FAULT", w.licence("chan 3-3; tone 0-0; ?"), NONE);
        Edge.due("no LICENCE more", w.about(3), 1);
        Edge.due("none such", w.fits(0, 1), NONE);
        Edge.due("the first is as it was", w.fits(0, 0), 0);
        Edge.due("BEST is as it was", w.best(0, 0), 0);
        Edge.due("no wanderers", w.wanderers(), 0);
        Edge.due("the tape is empty then", w.about(6), 0);
        Edge.due("the next has the number", w.licence("chan 4-4;"), 1);
        Edge.due("and its own bounds", w.fits(0, 1), 1);
        // Ten texts with FAULTS take no room.
        Watch many = Scenes.empty();
        for (int i = 0; i < 12; i++) {
            Edge.due("FAULT " + i, many.licence("?"), NONE);
        }
        Edge.due("the first LICENCE", many.licence(""), 0);
    }

    // Promise 17
    private static void fault() {
        Edge.sentence("Of the latest text: 0 its FAULT (0 without), 1 its place (NONE without). NONE for others, and ahead of any.");
        for (int what : new int[] {-1, 0, 1, 2}) {
            Edge.due("ahead of any, fault(" + what + ")", Scenes.empty().fault(what), NONE);
        }
        Watch fed = Scenes.empty();
        fed.text("?");
        Edge.due("a tape alone is no text", fed.fault(0), NONE);
        Edge.range("fault(v)", 0, 1, Scenes::some, (w, v) -> w.fault(v));
        int[] wrong = {-1, 2, Edge.LOW, Edge.HIGH};
        for (int what : wrong) {
            Watch w = Scenes.empty();
            w.licence("");
            Edge.due("fault(" + what + ") of a text without", w.fault(what), NONE);
        }
    }

    private static void faultOfLatest() {
        Watch w = Scenes.empty();
        String[] texts = {"?", "", "chan 16-16;", "chan 1-1; chan", " chan"};
        int[] faults = {1, 0, 3, 2, 1};
        int[] places = {0, NONE, 5, 10, 5};
        for (int i = 0; i < texts.length; i++) {
            w.text(texts[i]);
            Edge.due("fault(0) ahead of '" + texts[i] + "'", w.fault(0), i == 0 ? NONE : faults[i - 1]);
            Edge.due("fault(1) ahead of '" + texts[i] + "'", w.fault(1), i == 0 ? NONE : places[i - 1]);
            w.licence();
            Edge.due("fault(0) of '" + texts[i] + "'", w.fault(0), faults[i]);
            Edge.due("fault(1) of '" + texts[i] + "'", w.fault(1), places[i]);
        }
        w.end(0);
        feedBlanks(w);
        Edge.due("a new tape leaves it", w.fault(0), 1);
        Edge.due("and its place", w.fault(1), 5);
    }

    // Promise 18
    private static void fits() {
        Edge.sentence("How a SENDER FITS a LICENCE (0 .. 5). NONE: no such ones.");
        Edge.range("fits(v, 0) of 4", 0, 3, Scenes::some, (w, v) -> w.fits(v, 0));
        Edge.range("fits(0, v) of 2", 0, 1, Scenes::some, (w, v) -> w.fits(0, v));
        Edge.range("fits(0, v) of 10", 0, 9, Scenes::full, (w, v) -> w.fits(0, v));
        Edge.refused("without LICENCES", Scenes::oneMark, w -> w.fits(0, 0));
        Supplier<Watch> noMarks = () -> {
            Watch w = Scenes.ears();
            w.licence("");
            return w;
        };
        Edge.refused("without MARKS", noMarks, w -> w.fits(0, 0));
        Edge.refused("without both", Scenes::empty, w -> w.fits(0, 0));
        Edge.refused("both wrong", Scenes::some, w -> w.fits(4, 2));
    }

    // Promise 19
    private static void best() {
        Edge.sentence("BEST of a SENDER: the LICENCE (what 0), the answer (1). NONE: no such SENDER, no LICENCES, others.");
        Edge.range("best(v, 0) of 4", 0, 3, Scenes::some, (w, v) -> w.best(v, 0));
        Edge.range("best(v, 1) of 4", 0, 3, Scenes::some, (w, v) -> w.best(v, 1));
        Edge.range("best(0, v)", 0, 1, Scenes::some, (w, v) -> w.best(0, v));
        Edge.refused("no LICENCES, what 0", Scenes::oneMark, w -> w.best(0, 0));
        Edge.refused("no LICENCES, what 1", Scenes::oneMark, w -> w.best(0, 1));
        Edge.refused("no SENDER", Scenes::empty, w -> w.best(0, 0));
        Edge.refused("both wrong", Scenes::some, w -> w.best(4, 2));
        Watch faulty = Scenes.oneMark();
        faulty.licence("?");
        Edge.due("a text with a FAULT is no LICENCE", faulty.best(0, 0), NONE);
    }

    // Promise 20
    private static void wanderers() {
        Edge.sentence("How many SENDERS FIT no LICENCE by 0.");
        Edge.due("nothing yet", Scenes.empty().wanderers(), 0);
        Watch w = Scenes.ears();
        w.licence("");
        Edge.due("a LICENCE, no SENDERS", w.wanderers(), 0);
        Watch many = Scenes.ears();
        for (int i = 0; i < 60; i++) {
            many.mark(0, i % 16, 100 * i, 100 * i, 0);
        }
        Edge.due("60 SENDERS, no LICENCES", many.wanderers(), 60);
        many.licence("chan 0-0;");
        Edge.due("four on CHANNEL 0 FIT", many.wanderers(), 56);
        many.licence("chan 12-15;");
        Edge.due("three each on 12 .. 15 FIT", many.wanderers(), 44);
        for (int i = 2; i < 9; i++) {
            many.licence("chan 0-0;");
        }
        Edge.due("the same again", many.wanderers(), 44);
        many.licence("");
        Edge.due("all FIT the tenth", many.wanderers(), 0);
    }

    // Promise 21
    private static void sweep() {
        Edge.sentence("WORTH of the best SWEEP. NONE for others");
        Edge.refused("all wrong", Scenes::some, w -> w.sweep(0, -1, 0, 0));
        Edge.refused("all wrong, at first", Scenes::empty, w -> w.sweep(0, -1, 0, 0));
        Edge.refused("all too great", Scenes::full, w -> w.sweep(65536, 10000, 5, 241));
        int[][] wrong = {{0, 50, 2, 10}, {65536, 50, 2, 10}, {6, -1, 2, 10}, {6, 10000, 2, 10}, {6, 50, 0, 10},
            {6, 50, 5, 10}, {6, 50, 2, 0}, {6, 50, 2, 241}, {6, 9981, 2, 10}};
        for (int[] a : wrong) {
            String call = "sweep(" + a[0] + ", " + a[1] + ", " + a[2] + ", " + a[3] + ")";
            Edge.refused(call, Scenes::some, w -> w.sweep(a[0], a[1], a[2], a[3]));
            Edge.refused(call + " at first", Scenes::empty, w -> w.sweep(a[0], a[1], a[2], a[3]));
            Edge.refused(call + ", all full", Scenes::full, w -> w.sweep(a[0], a[1], a[2], a[3]));
        }
        Edge.due("without POSTS", Scenes.empty().sweep(6, 9980, 2, 10), 9981 + 9991);
    }

    // Promise 22
    private static void slot() {
        Edge.sentence("The CHANNEL of slot i of the latest SWEEP that told a WORTH. NONE if there is none such.");
        Edge.refused("no SWEEP yet", Scenes::ears, w -> w.slot(0));
        Edge.range("slot(v) of 3", 0, 2, Scenes::some, (w, v) -> w.slot(v));
        Edge.range("slot(v) of 4", 0, 3, Scenes::full, (w, v) -> w.slot(v));
        Watch w = Scenes.empty();
        w.sweep(0, 50, 2, 10);
        Edge.due("a SWEEP that told none", w.slot(0), NONE);
        w.sweep(0xF0, 50, 4, 10);
        w.sweep(0x300, 50, 2, 10);
        Edge.due("the latest, slot 0", w.slot(0), 8);
        Edge.due("the latest, slot 1", w.slot(1), 9);
        Edge.due("no slot of an earlier one", w.slot(2), NONE);
        w.sweep(0x300, 9990, 2, 10);
        w.sweep(0, 50, 1, 10);
        w.sweep(1, 50, 1, 241);
        Edge.due("the latest that told a WORTH, slot 0", w.slot(0), 8);
        Edge.due("the latest that told a WORTH, slot 1", w.slot(1), 9);
        w.post(0, 0);
        w.listened(0, 8, 0, 9999);
        Edge.due("LISTENED in the meantime changes nothing", w.slot(0), 8);
    }

    // Promise 23
    private static void about() {
        Edge.sentence("0 POSTS, 1 LISTENED ones, 2 MARKS, 3 LICENCES, 4 SHARP, 5 GAP, 6 bytes of the tape, "
                + "7 MARKS with a WEDGE. NONE for others.");
        Edge.range("about(v)", 0, 7, Scenes::some, (w, v) -> w.about(v));
        Edge.range("about(v) at first", 0, 7, Scenes::empty, (w, v) -> w.about(v));
        int[] some = {3, 5, 5, 2, 7, 20, 7, 2};
        int[] full = {6, 100, 60, 10, 5, 10, 100, 2};
        for (int what = 0; what < 8; what++) {
            Edge.due("some, about(" + what + ")", Scenes.some().about(what), some[what]);
            Edge.due("full, about(" + what + ")", Scenes.full().about(what), full[what]);
        }
        Watch w = Scenes.ears();
        for (int i = 0; i < 60; i++) {
            w.mark(0, 3, 0, 0, 0);
            w.wedge(i, 1, 0, 0, 1);
            w.wedge(i, 1, 0, 1, 1);
            Edge.due("MARKS with a WEDGE", w.about(7), i + 1);
        }
    }

    private static void questionsChangeNothing() {
        Edge.sentence("Nothing is promised beyond the answers and state changes described above");
        Watch some = Scenes.some();
        View.questions(some).dueAs("asked twice", View.questions(some));
        Watch asked = Scenes.some();
        View.questions(asked);
        View.whole(asked).dueAs("asked first", View.whole(Scenes.some()));
        Watch empty = Scenes.empty();
        View.questions(empty).dueAs("asked twice, at first", View.questions(empty));
    }

    private static void lastCall() {
        Edge.sentence("An object is used for at most 512 calls after it has been made");
        Watch refusing = Scenes.empty();
        for (int i = 1; i < 512; i++) {
            Edge.due("call " + i, refusing.post(32, 32), NONE);
        }
        Edge.due("the 512th call", refusing.post(31, 31), 0);
        Watch changing = Scenes.empty();
        for (int i = 1; i < 512; i++) {
            changing.joins(i % 100, i);
        }
        Edge.due("the 512th call, behind 511 changes", changing.about(5), 511);
        Watch sweeping = Scenes.empty();
        for (int i = 1; i < 512; i++) {
            Edge.due("sweep " + i, sweeping.sweep(0xFFFF, i, 4, 240), 4 * (i + 1) + 6 * 240);
        }
        Edge.due("the 512th call, behind 511 SWEEPS", sweeping.slot(3), 3);
    }
}
