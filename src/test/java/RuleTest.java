/** Promises 8 to 12: the text, its fault, rules, parts. */
public final class RuleTest {
    private static final Due d = new Due("rules");

    public static void main(String[] args) {
        write();
        wipe();
        fault();
        faultOfWeights();
        rule();
        part();
        d.end();
    }

    private static void write() {
        ThrownMarks x = new ThrownMarks();
        d.due("8 the highest of the lowest n first", x.write(2, 0x4D4D5331L), 2);
        d.due("8 it is S1", x.fault(), -9);
        d.due("8 comes behind", x.write(2, 0x2F4DL), 4);
        d.due("8 it is S1/M", x.rule(0), 2);
        d.due("8 eight", x.write(8, 0x2F525F5F5F5F5F5FL), 12);
        d.due("8 it is S1/M/R_", x.fault(), 6);
        d.due("8 too much", x.write(5, 0), -4);
        d.due("8 nothing came", x.count(3), 12);
        d.due("8 sixteen", x.write(4, -1L), 16);
        d.due("8 full", x.write(1, 0), -4);
        d.due("8 bad before full", x.write(9, 0), -2);
        d.due("8 bad 0 before full", x.write(0, 0), -2);
        d.due("8 nothing came again", x.count(3), 16);
        x.wipe();
        d.due("8 eight at once", x.write(8, 0x53302F4D2F522F50L), 8);
        d.due("8 all eight stand in order", x.fault(), 6);
        x.wipe();
        x.write(1, 0xD3L);
        d.due("8 a byte above 127 is no letter", x.fault(), 0);
        d.refused("8 bad 0", -2, y -> y.write(0, 77));
        d.refused("8 bad 9", -2, y -> y.write(9, 77));
        d.refused("8 bad -1", -2, y -> y.write(-1, 77));
        d.refused("8 bad MAX", -2, y -> y.write(Integer.MAX_VALUE, 77));
        d.refused("8 bad MIN", -2, y -> y.write(Integer.MIN_VALUE, 77));
        d.refused("8 full", -4, y -> {
            y.write(8, 0);
            int answer = y.write(2, 0);
            d.due("8 stands at 15", y.count(3), 15);
            Due.text(y, "S1/M/S9");
            return answer;
        });
    }

    private static void wipe() {
        ThrownMarks x = Due.some();
        d.due("9 wipe", x.wipe(), 7);
        d.due("9 wipe again", x.wipe(), 0);
        d.due("9 empty", x.count(3), 0);
        d.due("9 fault", x.fault(), 0);
        d.due("9 rules stay", x.part(0, 0), 1);
    }

    private static void fault(ThrownMarks x, String text, int want) {
        Due.text(x, text);
        d.due("10 fault of " + text, x.fault(), want);
        d.due("10 asked again " + text, x.fault(), want);
    }

    private static void fault() {
        ThrownMarks x = new ThrownMarks();
        String[] good = {"S0", "S3", "M", "R", "P", "W00000", "W99999", "M/M/M", "S1/R/P", "P/W12345", "W12345/W54321/M"};
        for (String text : good) {
            fault(x, text, -9);
        }
        fault(x, "", 0);
        fault(x, "S", 1);
        fault(x, "S4", 1);
        fault(x, "S/", 1);
        fault(x, "S12", 2);
        fault(x, "s0", 0);
        fault(x, "/", 0);
        fault(x, "X", 0);
        fault(x, " M", 0);
        fault(x, "M ", 1);
        fault(x, "MM", 1);
        fault(x, "M/", 2);
        fault(x, "M//", 2);
        fault(x, "M/S", 3);
        fault(x, "M/Sx", 3);
        fault(x, "M/R/P/", 5);
        fault(x, "M/R/P/M", 5);
        fault(x, "M/R/PM", 5);
        fault(x, "M/R/", 4);
        fault(x, "M/R/x", 4);
        fault(x, "S0/S1/S9", 7);
        x.wipe();
        x.write(8, 0);
        d.due("10 a zero is no letter", x.fault(), 0);
    }

    private static void faultOfWeights() {
        ThrownMarks x = new ThrownMarks();
        fault(x, "W", 1);
        fault(x, "W1234", 5);
        fault(x, "W123456", 6);
        fault(x, "W12/", 3);
        fault(x, "W123:5", 4);
        fault(x, "W123/5", 4);
        fault(x, "W12345", -9);
        fault(x, "W12345/W1234", 12);
        fault(x, "M/W12345/S", 10);
        x.panel(6, 1);
        fault(x, "W12345", 6);
        fault(x, "W123456", -9);
        x.panel(1, 1);
        fault(x, "W12345", 2);
        fault(x, "W1/W2/W3", -9);
        x.panel(7, 4);
        fault(x, "W1234567/M/W1234", 16);
        fault(x, "W0000000", -9);
        x.lose(0, true);
        d.due("10 judges that are lost have figures too", x.fault(), -9);
    }

    private static void rule() {
        ThrownMarks x = new ThrownMarks();
        x.mark(0, 0, 2);
        d.due("11 one part", Due.rule(x, 0, "M"), 1);
        d.due("11 two parts", Due.rule(x, 1, "R/S2"), 2);
        d.due("11 three parts", Due.rule(x, 2, "S0/P/W90000"), 3);
        d.due("11 the text stays", x.count(3), 11);
        d.due("11 into another one too", x.rule(0), 3);
        d.due("11 it is that", x.worth(0, 0, 2), 18);
        d.due("11 the others are not", x.part(1, 0), 2);
        d.due("11 less parts than before", Due.rule(x, 2, "S1"), 1);
        d.due("11 they are gone", x.part(2, 1), -9);
        x.panel(1, 1);
        x.card(0, 3);
        d.due("11 few figures", Due.rule(x, 0, "W9"), 1);
        x.panel(2, 1);
        x.card(0, 3);
        x.card(1, 4);
        d.due("11 figures of an earlier rule do not stand behind", x.worth(0, 0, 0), 27);
        d.refused("11 no rule", -1, y -> y.rule(3));
        d.refused("11 no rule -1", -1, y -> y.rule(-1));
        d.refused("11 late", -3, y -> y.rule(0));
        d.refused("11 first unknown", -1, y -> y.rule(4));
        for (String text : new String[] {"", "S", "M/R/", "W123", "W12345", "P/x", "M/M/M/M", "W1209/S"}) {
            d.refused("11 late: " + text, -3, y -> {
                Due.text(y, text);
                int answer = y.rule(1);
                Due.text(y, "S1/M/S9");
                return answer;
            });
        }
    }

    private static void part() {
        ThrownMarks x = new ThrownMarks();
        Due.rule(x, 1, "S3/M/R");
        Due.rule(x, 2, "P/W00000");
        d.due("12 S", x.part(1, 0), 0);
        d.due("12 M", x.part(1, 1), 1);
        d.due("12 R", x.part(1, 2), 2);
        d.due("12 P", x.part(2, 0), 3);
        d.due("12 W", x.part(2, 1), 4);
        d.due("12 none", x.part(2, 2), -9);
        d.due("12 none -1", x.part(2, -1), -9);
        d.due("12 none 3", x.part(1, 3), -9);
        d.due("12 none MAX", x.part(1, Integer.MAX_VALUE), -9);
        d.due("12 none MIN", x.part(1, Integer.MIN_VALUE), -9);
        d.refused("12 no rule", -1, y -> y.part(3, 0));
        d.refused("12 no rule -1", -1, y -> y.part(-1, 9));
    }
}
