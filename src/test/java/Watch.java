/** An AirWatch that counts its calls: behind the 512th nothing is promised, so no test may look there. */
final class Watch {
    private static final int MOST_CALLS = 512;

    private final AirWatch it = new AirWatch();
    private int calls = 0;

    private AirWatch next() {
        calls++;
        if (calls > MOST_CALLS) {
            Check.due("calls of one object", calls, MOST_CALLS);
        }
        return it;
    }

    private static int yes(boolean answer) {
        return answer ? 1 : 0;
    }

    int post(int x, int y) {
        return next().post(x, y);
    }

    int listened(int post, int channel, int from, int to) {
        return next().listened(post, channel, from, to);
    }

    int mark(int post, int channel, int from, int to, int tone) {
        return next().mark(post, channel, from, to, tone);
    }

    /** 1 for true, 0 for false. */
    int wedge(int mark, int dx1, int dy1, int dx2, int dy2) {
        return yes(next().wedge(mark, dx1, dy1, dx2, dy2));
    }

    /** 1 for true, 0 for false. */
    int joins(int sharp, int gap) {
        return yes(next().joins(sharp, gap));
    }

    int senders() {
        return next().senders();
    }

    int senderOf(int mark) {
        return next().senderOf(mark);
    }

    int sender(int k, int what) {
        return next().sender(k, what);
    }

    int place(int sender, int i) {
        return next().place(sender, i);
    }

    int box(int sender, int what) {
        return next().box(sender, what);
    }

    int minutes(int channel, int from, int to, int what) {
        return next().minutes(channel, from, to, what);
    }

    int blind(int channel, int from, int to) {
        return next().blind(channel, from, to);
    }

    int feed(int a, int b, int c, int d, int e) {
        return next().feed(a, b, c, d, e);
    }

    int end(int n) {
        return next().end(n);
    }

    int licence() {
        return next().licence();
    }

    int fault(int what) {
        return next().fault(what);
    }

    int fits(int sender, int licence) {
        return next().fits(sender, licence);
    }

    int best(int sender, int what) {
        return next().best(sender, what);
    }

    int wanderers() {
        return next().wanderers();
    }

    int sweep(int channels, int from, int n, int m) {
        return next().sweep(channels, from, n, m);
    }

    int slot(int i) {
        return next().slot(i);
    }

    int about(int what) {
        return next().about(what);
    }

    /** The tape has this text alone. */
    void text(String text) {
        end(0);
        for (int at = 0; at < text.length(); at += 20) {
            feed(Text.four(text, at), Text.four(text, at + 4), Text.four(text, at + 8),
                    Text.four(text, at + 12), Text.four(text, at + 16));
        }
        end(text.length());
    }

    int licence(String text) {
        text(text);
        return licence();
    }
}
