/** Feeds a text to the tape as the document tells: twenty bytes a call, the highest first. */
final class Text {
    private Text() {
    }

    /** Four bytes of a text as one number; bytes behind its end are 0. */
    static int four(String text, int at) {
        int all = 0;
        for (int i = at; i < at + 4; i++) {
            all = all << 8 | (i < text.length() ? text.charAt(i) & 255 : 0);
        }
        return all;
    }

    /** The tape has this text alone. */
    static void put(AirWatch watch, String text) {
        watch.end(0);
        for (int at = 0; at < text.length(); at += 20) {
            watch.feed(four(text, at), four(text, at + 4), four(text, at + 8), four(text, at + 12), four(text, at + 16));
        }
        watch.end(text.length());
    }

    static int licence(AirWatch watch, String text) {
        put(watch, text);
        return watch.licence();
    }
}
