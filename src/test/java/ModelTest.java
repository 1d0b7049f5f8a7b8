import java.util.Random;

/** Runs of up to 512 random calls, the same in every run of the test, against the Model. */
public final class ModelTest {
    private static final int RUNS = 1200;
    private static final int ENOUGH_WRONG = 20;
    private static final int[] ODD = {Integer.MIN_VALUE, -101, -2, -1, 0, 1, 2, 3, 4, 5, 6, 15, 16, 31, 32, 59,
        60, 99, 100, 101, 239, 240, 241, 999, 1000, 1439, 1440, 9998, 9999, 10000, 65535, 65536, 1 << 30,
        Integer.MAX_VALUE};
    private static final String[] BITS = {"chan", "time", "tone", "box", "chan ", "time ", "tone ", "box ", "-",
        ";", " ", "0", "1", "5", "15", "16", "31", "32", "999", "1000", "1439", "1440", "Chan", "x", "#",
        "99999999999", "00", "\t", "" + (char) 0, "" + (char) 200};

    private final Random random;
    private final AirWatch watch = new AirWatch();
    private final Model model = new Model();
    private final String name;
    private final int channels;
    private final int span;

    private ModelTest(int seed) {
        random = new Random(seed);
        name = "run " + seed + ": ";
        channels = new int[] {1, 2, 3, 16}[seed % 4];
        span = new int[] {60, 400, 3000, 10000}[seed / 4 % 4];
    }

    public static void main(String[] args) {
        for (int seed = 0; seed < RUNS && Check.wrong() < ENOUGH_WRONG; seed++) {
            new ModelTest(seed).run(seed % 10 == 0 ? 512 : 150);
        }
        Check.finish();
    }

    private int below(int n) {
        return random.nextInt(n);
    }

    /** Mostly a value that is right, now and then any. */
    private int or(int usual) {
        return below(60) == 0 ? ODD[below(ODD.length)] : usual;
    }

    private int channel() {
        return or(below(channels));
    }

    private void due(String call, long got, long want) {
        Check.due(name + call, got, want);
    }

    private void run(int calls) {
        for (int i = 0; i < calls; i++) {
            int kind = below(i < calls / 4 ? 40 : 100);
            if (kind < 40) {
                tell(kind, i);
            } else {
                ask(kind - 40);
            }
        }
    }

    private void tell(int kind, int i) {
        if (i < 3 || kind < 2) {
            int x = or(below(32));
            int y = or(below(32));
            due("post", watch.post(x, y), model.post(x, y));
        } else if (kind < 9) {
            listen();
        } else if (kind < 20) {
            note();
        } else if (kind < 28) {
            direct();
        } else if (kind < 30) {
            int sharp = or(below(below(2) == 0 ? 100 : 10));
            int gap = or(below(below(2) == 0 ? 1000 : 12));
            due("joins", watch.joins(sharp, gap) ? 1 : 0, model.joins(sharp, gap) ? 1 : 0);
        } else if (kind < 38) {
            read();
        } else {
            int n = or(below(101));
            due("end", watch.end(n), model.end(n));
        }
    }

    private void listen() {
        int post = or(below(6));
        int c = channel();
        int from = or(below(span));
        int to = or(Math.min(9999, from + below(Math.max(1, span / 4))));
        due("listened", watch.listened(post, c, from, to), model.listened(post, c, from, to));
    }

    private void note() {
        int post = or(below(Math.max(1, model.about(0))));
        int c = channel();
        int tone = or(below(2) == 0 ? below(1000) : 100 + below(40));
        int from = or(below(span));
        int to = or(Math.min(9999, from + below(below(2) == 0 ? 10 : Math.max(1, span / 4))));
        due("mark", watch.mark(post, c, from, to, tone), model.mark(post, c, from, to, tone));
    }

    private void direct() {
        int mark = or(below(Math.max(1, model.about(2))));
        int size = below(2) == 0 ? 3 : 100;
        int a = or(below(2 * size + 1) - size);
        int b = or(below(2 * size + 1) - size);
        int c = or(below(2 * size + 1) - size);
        int d = or(below(2 * size + 1) - size);
        due("wedge", watch.wedge(mark, a, b, c, d) ? 1 : 0, model.wedge(mark, a, b, c, d) ? 1 : 0);
    }

    private String number(int top) {
        return "" + (below(20) == 0 ? top + 1 : below(top + 1));
    }

    private String range(int top, boolean turned) {
        int a = below(top + 1);
        int b = below(top + 1);
        if (turned || below(25) == 0) {
            return number(top) + "-" + b;
        }
        return Math.min(a, b) + (below(9) == 0 ? " - " : "-") + Math.max(a, b);
    }

    private String clause() {
        switch (below(5)) {
            case 0: return "chan " + (below(2) == 0 ? "0-15" : range(Math.max(1, channels - 1), false)) + ";";
            case 1: return "time " + range(1439, below(2) == 0) + ";";
            case 2: return "tone " + (below(2) == 0 ? "90-150" : range(999, false)) + ";";
            case 3: return "box " + range(31, false) + " " + range(31, false) + ";";
            default: return below(4) == 0 ? BITS[below(BITS.length)] : "";
        }
    }

    private String text() {
        StringBuilder text = new StringBuilder();
        if (below(6) == 0) {
            for (int i = below(12); i > 0; i--) {
                text.append(BITS[below(BITS.length)]);
            }
        } else {
            for (int i = below(4); i > 0; i--) {
                text.append(clause());
            }
        }
        if (text.length() > 0 && below(8) == 0) {
            int at = below(text.length());
            text.replace(at, at + 1, BITS[below(BITS.length)]);
        }
        return text.length() > 100 ? text.substring(0, 100) : text.toString();
    }

    private void read() {
        if (below(12) != 0) {
            due("end(0)", watch.end(0), model.end(0));
        }
        String text = text();
        for (int at = 0; at < text.length(); at += 20) {
            int a = Text.four(text, at);
            int b = Text.four(text, at + 4);
            int c = Text.four(text, at + 8);
            int d = Text.four(text, at + 12);
            int e = Text.four(text, at + 16);
            due("feed", watch.feed(a, b, c, d, e), model.feed(a, b, c, d, e));
        }
        due("end", watch.end(text.length()), model.end(text.length()));
        due("licence of " + text, watch.licence(), model.licence());
        due("fault(0) of " + text, watch.fault(0), model.fault(0));
        due("fault(1) of " + text, watch.fault(1), model.fault(1));
        due("about(6)", watch.about(6), model.about(6));
    }

    private void ask(int kind) {
        int k = or(below(Math.max(1, model.senders())));
        if (kind < 5) {
            due("senders", watch.senders(), model.senders());
            int mark = or(below(Math.max(1, model.about(2))));
            due("senderOf", watch.senderOf(mark), model.senderOf(mark));
        } else if (kind < 16) {
            int what = or(below(9));
            due("sender " + what, watch.sender(k, what), model.sender(k, what));
        } else if (kind < 22) {
            int i = or(below(Math.max(1, model.sender(k, 7))));
            due("place", watch.place(k, i), model.place(k, i));
            int what = or(below(4));
            due("box", watch.box(k, what), model.box(k, what));
        } else if (kind < 30) {
            askTime();
        } else if (kind < 34) {
            int what = or(below(2));
            due("fault", watch.fault(what), model.fault(what));
            int about = or(below(8));
            due("about", watch.about(about), model.about(about));
        } else if (kind < 46) {
            int licence = or(below(Math.max(1, model.about(3))));
            due("fits", watch.fits(k, licence), model.fits(k, licence));
        } else if (kind < 52) {
            int what = or(below(2));
            due("best", watch.best(k, what), model.best(k, what));
        } else if (kind < 53) {
            due("wanderers", watch.wanderers(), model.wanderers());
        } else {
            askSweep();
        }
    }

    private void askTime() {
        int c = channel();
        int from = or(below(span));
        int to = or(Math.min(9999, from + below(span)));
        int what = or(below(3));
        due("minutes", watch.minutes(c, from, to, what), model.minutes(c, from, to, what));
        due("blind", watch.blind(c, from, to), model.blind(c, from, to));
    }

    private void askSweep() {
        int set = or(1 + below((1 << channels) - 1 == 0 ? 1 : (1 << channels) - 1));
        int from = or(below(span));
        int n = or(1 + below(below(4) == 0 ? 4 : 3));
        int m = or(1 + below(below(2) == 0 ? 240 : 10));
        due("sweep", watch.sweep(set, from, n, m), model.sweep(set, from, n, m));
        for (int i = -1; i < 5; i++) {
            due("slot", watch.slot(i), model.slot(i));
        }
    }
}
