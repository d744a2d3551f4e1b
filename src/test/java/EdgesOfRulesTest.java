/** The boundary cases of section 1 that are of texts and rules, and of promises 8 to 12. */
public final class EdgesOfRulesTest {
    private static final Due d = new Due("edges of rules");
    private static final String LETTERS = "SMRPW", STRIKES = "0123", FIGURES = "0123456789";

    public static void main(String[] args) {
        writeEveryLength();
        writeOtherBytes();
        writeToTheEnd();
        wipe();
        everyByte();
        figuresByJudges();
        ends();
        fullTexts();
        rules();
        late();
        parts();
        d.end();
    }

    private static ThrownMarks judges(int n) {
        ThrownMarks x = new ThrownMarks();
        x.panel(n, 3);
        return x;
    }

    private static long bytes(String text) {
        long v = 0;
        for (int i = 0; i < text.length(); i++) {
            v = v << 8 | text.charAt(i);
        }
        return v;
    }

    /** What stands above the lowest n bytes does not count; the kind of the first part tells which byte came first. */
    private static void writeEveryLength() {
        String[] texts = {"M", "S3", "M/R", "S1/M", "R/S2/", "W1234/", "M/W1234", "S1/W1234"};
        int[] faults = {-9, -9, -9, -9, 5, 6, -9, -9};
        int[] kinds = {1, 0, 1, 0, 0, 0, 1, 0};
        for (int n = 1; n <= 8; n++) {
            String text = texts[n - 1];
            for (long above : new long[] {0, -1, 0x5353535353535353L}) {
                ThrownMarks x = judges(4);
                long v = n == 8 ? bytes(text) : bytes(text) | above << 8 * n;
                d.due("8 " + n + " bytes", x.write(n, v), n);
                d.due("8 " + text + " and nothing above it", x.fault(), faults[n - 1]);
                x.rule(1);
                d.due("8 the highest of these first: " + text, x.part(1, 0), kinds[n - 1]);
            }
        }
    }

    private static void writeOtherBytes() {
        for (long v : new long[] {Long.MIN_VALUE, Long.MAX_VALUE, 0, -1, Integer.MIN_VALUE, Integer.MAX_VALUE}) {
            for (int n = 1; n <= 8; n++) {
                ThrownMarks x = judges(4);
                d.due("8 " + n + " bytes of " + v, x.write(n, v), n);
                d.due("8 of which none is a letter", x.fault(), 0);
                d.due("8 nor a rule", x.rule(0), -3);
            }
        }
        ThrownMarks x = judges(4);
        d.due("8 the lowest of the least long", x.write(1, Long.MIN_VALUE + 'R'), 1);
        d.due("8 it is R", x.rule(0), 1);
        d.due("8 the lowest two of the greatest", x.write(2, Long.MAX_VALUE - 0xffff + 0x2f4d), 3);
        d.due("8 it is R/M", x.rule(0), 2);
        int[] beyond = {0, 9, -1, 16, 64, Integer.MIN_VALUE, Integer.MAX_VALUE};
        for (int n : beyond) {
            d.due("8 n " + n, x.write(n, 'M'), -2);
        }
        d.due("8 nothing came", x.count(3), 3);
    }

    private static void writeToTheEnd() {
        for (int left = 1; left <= 8; left++) {
            ThrownMarks x = judges(4);
            x.write(8, bytes("S0/S1/W1"));
            if (left < 8) {
                d.due("8 behind eight", x.write(8 - left, 0), 16 - left);
                d.due("8 one more than there is room for", x.write(left + 1, -1L), -4);
                d.due("8 nothing came", x.count(3), 16 - left);
            }
            d.due("8 just as many as there is room for", x.write(left, -1L), 16);
            d.due("8 full", x.write(1, 'M'), -4);
            d.due("8 full for eight", x.write(8, 0), -4);
            d.due("8 bad is told first", x.write(0, 'M'), -2);
            d.due("8 bad is told first of nine", x.write(9, 'M'), -2);
            d.due("8 sixteen still", x.count(3), 16);
        }
        ThrownMarks x = judges(5);
        x.write(8, bytes("W12345/W"));
        x.write(7, bytes("54321/S"));
        d.due("8 fifteen, two are too many", x.write(2, bytes("01")), -4);
        d.due("8 not even the first of them came", x.fault(), 15);
        d.due("8 the sixteenth", x.write(1, '3'), 16);
        d.due("8 it is a rule", x.rule(2), 3);
    }

    private static void wipe() {
        ThrownMarks x = judges(4);
        d.due("9 empty", x.wipe(), 0);
        x.write(8, -1L);
        x.write(8, -1L);
        d.due("9 full", x.wipe(), 16);
        d.due("9 empty again", x.wipe(), 0);
        d.due("9 there is room", x.write(8, 0), 8);
        d.due("9 eight", x.wipe(), 8);
        x.write(1, 'M');
        d.due("10 what was wiped does not stand behind", x.fault(), -9);
        x.wipe();
        d.due("10 the empty text", x.fault(), 0);
    }

    /** Each of 256 bytes behind each beginning: the ones that may come, and that no other one may, whatever comes. */
    private static void everyByte() {
        String[][] next = {
            {"", LETTERS}, {"S", STRIKES}, {"S0", "/"}, {"S3", "/"}, {"M", "/"}, {"R", "/"}, {"P", "/"},
            {"W", FIGURES}, {"W9", FIGURES}, {"W90", FIGURES}, {"W907", "/"},
            {"M/", LETTERS}, {"M/S", STRIKES}, {"M/S1", "/"}, {"R/P", "/"}, {"S0/W", FIGURES}, {"S0/W00", FIGURES},
            {"S0/W000", "/"}, {"W123/R", "/"}, {"P/R/", LETTERS}, {"P/R/S", STRIKES}, {"P/R/S2", ""}, {"P/R/M", ""},
            {"P/R/R", ""}, {"P/R/P", ""}, {"P/R/W", FIGURES}, {"P/R/W12", FIGURES}, {"P/R/W123", ""},
            {"W123/W123/M", ""}, {"W123/W123/S", STRIKES}};
        for (String[] row : next) {
            int at = row[0].length();
            for (int b = 0; b < 256; b++) {
                ThrownMarks x = judges(3);
                Due.text(x, row[0] + (char) b);
                boolean may = row[1].indexOf((char) b) >= 0;
                d.due("10 byte " + b + " behind " + row[0], x.fault() == at ? 1 : 0, may ? 0 : 1);
                x.write(1, '/');
                d.due("10 and a / behind it", x.fault() == at ? 1 : 0, may ? 0 : 1);
            }
        }
    }

    private static void figuresByJudges() {
        for (int n = 1; n <= 7; n++) {
            for (int figures = 0; figures <= 8; figures++) {
                ThrownMarks x = judges(n);
                Due.text(x, "W90817263".substring(0, 1 + figures));
                int due = figures == n ? -9 : Math.min(n, figures) + 1;
                d.due("10 " + figures + " figures of " + n + " judges", x.fault(), due);
                d.due("11 so it becomes a rule or not", x.rule(0), due == -9 ? 1 : -3);
                Due.text(x, "M/W90817263".substring(0, 3 + figures) + "/");
                due = figures == n ? 4 + n : figures < n ? 3 + figures : 3 + n;
                d.due("10 another byte behind " + figures + " figures of " + n + " judges", x.fault(), due);
            }
        }
        ThrownMarks x = judges(2);
        Due.text(x, "W12");
        d.due("10 two judges", x.fault(), -9);
        x.panel(1, 1);
        d.due("10 one judge now", x.fault(), 2);
        x.panel(7, 1);
        d.due("10 seven judges now", x.fault(), 3);
        x.panel(2, 1);
        x.lose(0, true);
        x.lose(1, true);
        d.due("10 all lost are judges still", x.fault(), -9);
    }

    /** What is only not at its end has its fault there; a rule that is at its end has none. */
    private static void ends() {
        String whole = "W120/S3/W999";
        int[] ended = {0, 0, 0, 0, 1, 0, 0, 1, 0, 0, 0, 0, 1};
        for (int many = 0; many <= whole.length(); many++) {
            ThrownMarks x = judges(3);
            Due.text(x, whole.substring(0, many));
            d.due("10 the first " + many + " of " + whole, x.fault(), ended[many] == 1 ? -9 : many);
            d.due("11 the first " + many + " of " + whole, x.rule(1) > 0 ? 1 : 0, ended[many]);
        }
    }

    private static void fullTexts() {
        ThrownMarks x = judges(5);
        Due.text(x, "W12345/W54321/S0");
        d.due("10 full and right", x.fault(), -9);
        d.due("11 full and right", x.rule(0), 3);
        Due.text(x, "W12345/W54321/S4");
        d.due("10 full, the last byte is it", x.fault(), 15);
        Due.text(x, "W12345/W54321/xx");
        d.due("10 full, the last but one is it", x.fault(), 14);
        Due.text(x, "xxxxxxxxxxxxxxxx");
        d.due("10 full, the first is it", x.fault(), 0);
        x.panel(6, 1);
        Due.text(x, "W123456/S0/W1234");
        d.due("10 full and not at its end", x.fault(), 16);
        d.due("11 full and not at its end", x.rule(0), -3);
        d.due("11 the rule is as it was", x.part(0, 2), 0);
    }

    private static void rules() {
        for (int r = 0; r < 3; r++) {
            ThrownMarks x = judges(3);
            d.due("11 rule " + r, Due.rule(x, r, "P/R/M"), 3);
            for (int other = 0; other < 3; other++) {
                d.due("11 no other one", x.part(other, 0), other == r ? 3 : 0);
                d.due("12 its parts", x.part(other, 2), other == r ? 1 : -9);
            }
            d.due("11 one part instead", Due.rule(x, r, "S0"), 1);
            d.due("12 the second is no more", x.part(r, 1), -9);
            d.due("13 the third is no more", x.worth(r, 0, 2), -2);
        }
        ThrownMarks x = judges(3);
        Due.text(x, "M");
        d.due("11 the least beyond", x.rule(3), -1);
        d.due("11 the first below", x.rule(-1), -1);
        Due.text(x, "M/");
        d.due("11 unknown is told first", x.rule(3), -1);
        d.due("11 late", x.rule(2), -3);
        d.due("11 and no rule is changed", x.part(2, 0), 0);
    }

    /** A fault in a later part leaves the whole rule as it was. */
    private static void late() {
        String[] faulty = {"", "S", "S4", "R/", "R/S", "R/P/", "R/P/W12", "R/P/M/", "R/P/M/M", "W12", "W1234", "R/W12x"};
        for (String text : faulty) {
            ThrownMarks x = Due.cards(2, "50", "13", "13");
            Due.rule(x, 1, "W123/M");
            Due.text(x, text);
            d.due("11 late: " + text, x.rule(1), -3);
            d.due("11 its first part stays: " + text, x.worth(1, 1, 0), 2 * 3 + 3 * 3);
            d.due("11 its second part stays: " + text, x.worth(1, 1, 1), 6);
            d.due("11 it has no third: " + text, x.part(1, 2), -9);
            d.due("11 the text stays: " + text, x.count(3), text.length());
        }
    }

    private static void parts() {
        for (int kind = 0; kind < 5; kind++) {
            String part = new String[] {"S3", "M", "R", "P", "W12345"}[kind];
            String[] rows = {part + "/M/R", "R/" + part + "/M", "M/R/" + part};
            for (int at = 0; at < 3; at++) {
                ThrownMarks x = new ThrownMarks();
                d.due("11 " + rows[at], Due.rule(x, 2, rows[at]), 3);
                d.due("12 " + rows[at] + " at " + at, x.part(2, at), kind);
                d.due("12 the first beyond", x.part(2, 3), -9);
                d.due("12 the first below", x.part(2, -1), -9);
                d.due("12 of a rule that there is not", x.part(3, 3), -1);
            }
        }
    }
}
