import java.util.function.Supplier;

/** The edges that the document's terms name, part III: texts of LICENCES and their FAULTS. */
public final class TextEdgesTest {
    private static final int NONE = Edge.NONE;

    private TextEdgesTest() {
    }

    public static void main(String[] args) {
        licencesUpToTen();
        hundredBytes();
        blanks();
        allBytes();
        tokensOneBehindTheOther();
        anyClauses();
        channelBounds();
        timeBounds();
        toneBounds();
        boxBounds();
        secondNotBelow();
        numbersThatWrapAround();
        firstFault();
        eachTokenInTurn();
        cutAnywhere();
        leastFaultOfOne();
        wordsAgain();
        Check.finish();
    }

    private static void dueGood(String text) {
        Watch w = Scenes.empty();
        Edge.due("licence of '" + text + "'", w.licence(text), 0);
        Edge.due("FAULT of '" + text + "'", w.fault(0), 0);
        Edge.due("place of '" + text + "'", w.fault(1), NONE);
        Edge.due("LICENCES with '" + text + "'", w.about(3), 1);
        Edge.due("tape behind '" + text + "'", w.about(6), 0);
    }

    private static void dueFault(String text, int fault, int place) {
        Watch w = Scenes.empty();
        Edge.due("licence of '" + text + "'", w.licence(text), NONE);
        Edge.due("FAULT of '" + text + "'", w.fault(0), fault);
        Edge.due("place in '" + text + "'", w.fault(1), place);
        Edge.due("LICENCES with '" + text + "'", w.about(3), 0);
        Edge.due("tape behind '" + text + "'", w.about(6), 0);
    }

    private static Watch licencesTimes(int times) {
        Watch w = Scenes.oneMark();
        for (int i = 0; i < times; i++) {
            w.licence("chan " + i + "-" + i + ";");
        }
        w.text("chan 3-3;");
        return w;
    }

    private static void licencesUpToTen() {
        Edge.sentence("LICENCES 0 .. 9");
        Edge.due("the first", licencesTimes(0).licence(), 0);
        Edge.due("the ninth", licencesTimes(8).licence(), 8);
        Edge.due("the tenth", licencesTimes(9).licence(), 9);
        Watch ten = licencesTimes(9);
        ten.licence();
        Edge.due("the tenth FITS", ten.fits(0, 9), 0);
        Edge.due("the ninth doesn't", ten.fits(0, 8), 1);
        Edge.due("there is no eleventh", ten.fits(0, 10), NONE);
        Edge.refused("the eleventh", () -> licencesTimes(10), Watch::licence);
        Edge.refused("the eleventh, all full", Scenes::full, Watch::licence);
        Supplier<Watch> faulty = () -> {
            Watch w = licencesTimes(10);
            w.text("chan 16-17;");
            return w;
        };
        Edge.refused("the eleventh with a FAULT", faulty, Watch::licence);
        Supplier<Watch> noText = () -> {
            Watch w = licencesTimes(10);
            w.end(0);
            return w;
        };
        Edge.refused("the eleventh of the empty tape", noText, Watch::licence);
    }

    private static String blanks(int n) {
        return " ".repeat(n);
    }

    private static void hundredBytes() {
        Edge.sentence("texts of up to 100 bytes");
        dueGood("");
        dueGood(blanks(99));
        dueGood(blanks(100));
        dueGood(blanks(91) + "chan 1-2;");
        dueGood("chan 1-2;" + blanks(91));
        dueFault(blanks(92) + "chan 1-2", 1, 100);
        dueFault(blanks(99) + "x", 1, 99);
        dueFault("chan 1-2" + blanks(92), 1, 100);
        String zeros = "0".repeat(44);
        dueGood("chan " + zeros + "1-" + zeros + "2;   ");
        Watch w = Scenes.oneMark();
        Edge.due("bytes", w.about(6), 0);
        Edge.due("100 bytes", w.licence(blanks(91) + "chan 4-4;"), 0);
        Edge.due("its last bytes count", w.fits(0, 0), 1);
    }

    private static void blanks() {
        Edge.sentence("TOKENS, blanks (32) aside");
        dueGood("chan1-2;time3-4;tone5-6;box7-8 9-9;");
        dueGood(" chan 1 - 2 ; time 3 - 4 ; tone 5 - 6 ; box 7 - 8 9 - 9 ; ");
        dueGood("   chan   1   -   2   ;   ");
        dueGood(" ");
        for (int sign : new int[] {0, 9, 10, 13, 31, 33, 160, 255}) {
            dueFault((char) sign + "chan 1-2;", 1, 0);
            dueFault("chan" + (char) sign + "1-2;", 1, 4);
            dueFault("chan 1" + (char) sign + "-2;", 1, 6);
            dueFault("chan 1-2;" + (char) sign, 1, 9);
        }
    }

    private static boolean isLetter(int sign) {
        return sign >= 65 && sign <= 90 || sign >= 97 && sign <= 122;
    }

    private static boolean isDigit(int sign) {
        return sign >= 48 && sign <= 57;
    }

    private static void allBytes() {
        Edge.sentence("letters a .. z, A .. Z one behind the other (one TOKEN), digits likewise (NUMBERS), - and ; .");
        for (int sign = 0; sign < 256; sign++) {
            String one = "" + (char) sign;
            if (sign == 32) {
                dueGood(one);
                dueFault("chan" + one, 1, 5);
                dueFault("chan 1" + one, 1, 7);
                dueFault("chan 1-2" + one, 1, 9);
            } else {
                dueFault(one, 1, 0);
                dueFault("chan" + one, 1, isLetter(sign) ? 0 : isDigit(sign) ? 5 : 4);
                dueInNumber(one, sign);
            }
            if (sign == ';') {
                dueGood("chan 1-2" + one);
            }
        }
    }

    /** The byte behind the first and behind the second NUMBER. */
    private static void dueInNumber(String one, int sign) {
        if (isDigit(sign)) {
            dueFault("chan 1" + one, sign <= '5' ? 1 : 3, sign <= '5' ? 7 : 5);
            dueFault("chan 1-2" + one, 3, 7);
        } else {
            dueFault("chan 1" + one, 1, sign == '-' ? 7 : 6);
            if (sign != ';') {
                dueFault("chan 1-2" + one, 1, 8);
            }
        }
    }

    private static void tokensOneBehindTheOther() {
        dueFault("ch an 1-2;", 1, 0);
        dueFault("chantime 1-2;", 1, 0);
        dueFault("chan time 1-2;", 1, 5);
        dueFault("chan 1 1-2;", 1, 7);
        dueFault("chan 1-1 2;", 1, 9);
        dueFault("chan 1-2; ;", 1, 10);
        dueFault("chan 1- -2;", 1, 8);
        dueFault("box 1-23-4;", 1, 8);
        dueFault("box 1-2 34;", 3, 8);
        dueFault("box 1-2 3 4;", 1, 10);
        dueGood("chan 0-15;");
        dueFault("chan 0-1 5;", 1, 9);
        for (String word : new String[] {"Chan", "CHAN", "chaN", "Time", "tIme", "TONE", "tonE", "Box", "bOX"}) {
            dueFault(word + " 1-2;", 1, 0);
        }
        for (String word : new String[] {"chan", "time", "tone", "box"}) {
            dueFault(word.substring(1) + " 1-2;", 1, 0);
            dueFault(word.substring(0, word.length() - 1) + " 1-2;", 1, 0);
            dueFault(word + word.charAt(0) + " 1-2;", 1, 0);
            dueFault(word.charAt(0) + word + " 1-2;", 1, 0);
        }
    }

    private static final String[] CLAUSES = {"chan 1-2;", "time 3-4;", "tone 5-6;", "box 7-8 9-9;"};

    private static void anyClauses() {
        Edge.sentence("{CLAUSE}.");
        for (int a = 0; a < 4; a++) {
            dueGood(CLAUSES[a]);
            for (int b = 0; b < 4; b++) {
                for (int c = 0; c < 4 && b != a; c++) {
                    int d = 6 - a - b - c;
                    if (c != a && c != b) {
                        dueGood(CLAUSES[a] + CLAUSES[b]);
                        dueGood(CLAUSES[a] + CLAUSES[b] + CLAUSES[c]);
                        dueGood(CLAUSES[a] + CLAUSES[b] + CLAUSES[c] + CLAUSES[d]);
                    }
                }
            }
        }
    }

    /** Both NUMBERS of a clause of one range: the least, the greatest and the first beyond it. */
    private static void dueBounds(String word, int greatest) {
        int at = word.length() + 1;
        dueGood(word + " 0-0;");
        dueGood(word + " 0-" + greatest + ";");
        dueGood(word + " " + greatest + "-" + greatest + ";");
        dueFault(word + " 0-" + (greatest + 1) + ";", 3, at + 2);
        dueFault(word + " " + (greatest + 1) + "-" + greatest + ";", 3, at);
        dueFault(word + " " + (greatest + 1) + "-" + (greatest + 1) + ";", 3, at);
        dueFault(word + " -1-" + greatest + ";", 1, at);
        dueFault(word + " 0--1;", 1, at + 2);
    }

    private static void channelBounds() {
        Edge.sentence("chan NUMBER - NUMBER ; (CHANNELS)");
        dueBounds("chan", 15);
    }

    private static void timeBounds() {
        Edge.sentence("time NUMBER - NUMBER ; (0 .. 1439");
        dueBounds("time", 1439);
        Edge.sentence("the second may be below the first: over midnight");
        dueGood("time 1439-0;");
        dueGood("time 1-0;");
        dueGood("time 720-719;");
        dueFault("time 1440-0;", 3, 5);
        dueFault("time 1439-1440;", 3, 10);
    }

    private static void toneBounds() {
        Edge.sentence("tone NUMBER - NUMBER ; (0 .. 999)");
        dueBounds("tone", 999);
    }

    private static void boxBounds() {
        Edge.sentence("box NUMBER - NUMBER NUMBER - NUMBER ; (x, then y, 0 .. 31)");
        dueGood("box 0-0 0-0;");
        dueGood("box 0-31 0-31;");
        dueGood("box 31-31 31-31;");
        dueFault("box 32-32 0-0;", 3, 4);
        dueFault("box 0-32 0-0;", 3, 6);
        dueFault("box 0-0 32-32;", 3, 8);
        dueFault("box 0-0 0-32;", 3, 10);
        dueFault("box -1-0 0-0;", 1, 4);
        dueFault("box 0-0 -1-0;", 1, 8);
        dueFault("box 0-0;", 1, 7);
        dueFault("box 0-0 0;", 1, 9);
        dueFault("box 0-0 0-;", 1, 10);
        dueFault("box 0-0 0-0 0-0;", 1, 12);
        dueFault("chan 0-0 0-0;", 1, 9);
    }

    private static void secondNotBelow() {
        Edge.sentence("Of chan, tone, box the second NUMBER of two isn't below the first.");
        dueGood("chan 7-7;");
        dueFault("chan 7-6;", 3, 7);
        dueFault("chan 15-0;", 3, 8);
        dueGood("tone 500-500;");
        dueFault("tone 500-499;", 3, 9);
        dueFault("tone 999-0;", 3, 9);
        dueGood("box 7-7 8-8;");
        dueFault("box 7-6 8-8;", 3, 6);
        dueFault("box 7-7 8-7;", 3, 10);
        // Of two alone: y may be below x.
        dueGood("box 30-31 0-1;");
        dueGood("box 0-1 30-31;");
    }

    private static void numbersThatWrapAround() {
        Edge.sentence("3 a NUMBER that isn't one of those told.");
        String[] great = {"256", "65536", "65537", "2147483647", "2147483648", "4294967295", "4294967296",
            "4294967297", "9223372036854775808", "18446744073709551616", "18446744073709551617",
            "340282366920938463463374607431768211457", "1" + "0".repeat(60)};
        for (String number : great) {
            dueFault("chan " + number + "-15;", 3, 5);
            dueFault("chan 0-" + number + ";", 3, 7);
            dueFault("box 0-0 0-" + number + ";", 3, 10);
        }
        String[] greater = {"65536", "65537", "4294967296", "4294967297", "18446744073709551617"};
        for (String number : greater) {
            dueFault("time " + number + "-0;", 3, 5);
            dueFault("tone 0-" + number + ";", 3, 7);
        }
        dueGood("chan 0000000000-000000000015;");
        dueGood("time 0001439-00;");
        dueFault("time 0001440-00;", 3, 5);
        dueFault("chan 0000000000-000000000016;", 3, 16);
    }

    private static void firstFault() {
        Edge.sentence("FAULTS, the first as TOKENS are come to, at the TOKEN's first byte");
        dueFault("chan 99-1; ?", 3, 5);
        dueFault("chan 9-1; ?", 3, 7);
        dueFault("? chan 99-1;", 1, 0);
        dueFault("chan 1-2;chan 99-1; ?", 2, 9);
        dueFault("chan 1-2;time 9999-1;chan 1-1;", 3, 14);
        dueFault("chan 1-2;  word 1-1;", 1, 11);
        dueFault("chan 1-2;   0012345;", 1, 12);
        dueFault("time 3-4;  time", 2, 11);
    }

    private static final String[] TOKENS = {"chan", "3", "-", "4", ";", "box", "1", "-", "2", "3", "-", "4", ";"};
    private static final String[] OTHERS = {"chan", "box", "time", "word", "9", "-", ";", "?"};

    private static String kind(String token) {
        return isLetter(token.charAt(0)) ? "word" : isDigit(token.charAt(0)) ? "number" : token;
    }

    /** Each TOKEN of a text in turn is put for each kind of TOKEN that can't stand there. */
    private static void eachTokenInTurn() {
        Edge.sentence("1 it can't stand there, or is none.");
        for (int i = 0; i < TOKENS.length; i++) {
            for (String other : OTHERS) {
                boolean known = other.equals("chan") || other.equals("box") || other.equals("time");
                boolean begins = (i == 0 || i == 5) && known;
                if (!kind(other).equals(kind(TOKENS[i])) || kind(other).equals("word") && !begins) {
                    dueAtToken(i, other);
                }
            }
            dueEndAt(i);
        }
    }

    private static void dueAtToken(int index, String other) {
        StringBuilder text = new StringBuilder();
        int place = 0;
        for (int i = 0; i < TOKENS.length; i++) {
            if (i == index) {
                place = text.length();
            }
            text.append(i == index ? other : TOKENS[i]).append(' ');
        }
        dueFault(text.toString(), 1, place);
    }

    private static void dueEndAt(int index) {
        StringBuilder text = new StringBuilder();
        for (int i = 0; i < index; i++) {
            text.append(TOKENS[i]).append(' ');
        }
        if (index == 0 || index == 5) {
            dueGood(text.toString());
        } else {
            dueFault(text.toString(), 1, text.length());
            dueFault(text.toString().trim(), 1, text.length() - 1);
        }
    }

    private static void cutAnywhere() {
        Edge.sentence("(of the end at the length)");
        String text = "chan 3-4;tone 5-6; time 7-8;box 1-2 3-4;";
        int clause = 0;
        for (int n = 0; n <= text.length(); n++) {
            String cut = text.substring(0, n);
            String rest = cut.substring(clause).trim();
            if (rest.isEmpty() || rest.endsWith(";")) {
                dueGood(cut);
                clause = n;
            } else if (rest.matches("[a-z]+") && !rest.matches("chan|tone|time|box")) {
                dueFault(cut, 1, cut.indexOf(rest, clause));
            } else {
                dueFault(cut, 1, n);
            }
        }
    }

    private static void leastFaultOfOne() {
        Edge.sentence("of one the least");
        dueFault("chan chan", 1, 5);
        dueFault("chan 1 chan", 1, 7);
        dueFault("chan 1-2 chan", 1, 9);
        dueFault("chan 1-2;time chan", 1, 14);
        dueFault("chan 1-2;time 5-5 time", 1, 18);
        dueFault("99", 1, 0);
        dueFault("chan 1 99", 1, 7);
        dueFault("chan 1-2 99", 1, 9);
        dueFault("chan 1-2;99", 1, 9);
        dueFault("chan 1-2;word 1-1;word", 1, 9);
    }

    private static void wordsAgain() {
        Edge.sentence("2 a WORD for the second time.");
        String[] words = {"chan", "time", "tone", "box"};
        for (int a = 0; a < 4; a++) {
            dueFault(CLAUSES[a] + words[a], 2, CLAUSES[a].length());
            dueFault(CLAUSES[a] + CLAUSES[a], 2, CLAUSES[a].length());
            dueFault(CLAUSES[a] + " " + words[a] + " 99999;", 2, CLAUSES[a].length() + 1);
            for (int b = 0; b < 4; b++) {
                if (b != a) {
                    String two = CLAUSES[a] + CLAUSES[b];
                    dueFault(two + words[a], 2, two.length());
                    dueFault(two + words[b], 2, two.length());
                }
            }
        }
        String all = CLAUSES[0] + CLAUSES[1] + CLAUSES[2] + CLAUSES[3];
        for (String word : words) {
            dueFault(all + word, 2, all.length());
        }
        // A text with a FAULT leaves no words for the next one.
        Watch w = Scenes.empty();
        w.licence("chan 1-2;time 1-2;tone 1-2;box 1-2 1-2;?");
        Edge.due("the same words in the next text", w.licence(all), 0);
        Edge.due("and in the one behind it", w.licence(all), 1);
    }
}
