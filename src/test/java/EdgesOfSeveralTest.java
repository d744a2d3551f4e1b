/** The boundary cases of sections 2 and 3 that are of blocs, lots and thirds, and of promises 24 to 29. */
public final class EdgesOfSeveralTest {
    private static final Due d = new Due("edges of several");
    private static final String[] RULES = {"S0", "S1", "S2", "S3", "M", "R", "P", "W0000000", "W9000001", "S3/P/R"};

    public static void main(String[] args) {
        leastPanel();
        blocs();
        whatBlocsGive();
        fewBringAny();
        fewest();
        drawnOfAll();
        drawnOfThoseThatCount();
        drawnAlone();
        leftOut();
        turnedByOneMark();
        turnsRefusals();
        thirds();
        d.end();
    }

    private static ThrownMarks seven(String row) {
        return Due.cards(row.length(), row, row, row, row, row, row, row);
    }

    private static void leastPanel() {
        ThrownMarks x = Due.cards(1, "5");
        for (int time = 0; time < 2; time++) {
            d.due("24 nobody", x.bloc(0, 0, 0), 1);
            d.due("24 the one judge", x.bloc(0, 1, 0), 1);
            d.due("24 the first set beyond", x.bloc(0, 2, 0), -2);
            d.due("25 nobody is wanted", x.few(0, 0, 1), 0);
            d.due("25 place 4 of one", x.few(0, 0, 4), 0);
            d.due("26 the first k beyond", x.drawn(0, 0, 2), -2);
            d.due("26 the first k below", x.drawn(0, 0, 0), -2);
            d.due("26 one, or it is lost", x.drawn(0, 0, 1), 1 - time);
            d.due("27 the one skater is first without it", x.leftOut(0), 0);
            d.due("28 a skater can't be three", x.turns(0, 0, 0, 0), -2);
            d.due("28 there is no other", x.turns(0, 0, 1, 0), -1);
            d.due("29 none", x.thirds(0), 0);
            x.lose(0, true);
        }
    }

    private static void blocs() {
        for (String rule : RULES) {
            ThrownMarks x = seven("0355");
            Due.rule(x, 0, rule);
            for (int s = 0; s < 4; s++) {
                d.due("24 nobody: as it is, by " + rule, x.bloc(0, 0, s), x.place(0, s));
                d.due("24 all seven by " + rule, x.bloc(0, 127, s), 1);
                d.due("24 the first set beyond", x.bloc(0, 128, s), -2);
                d.due("24 the first below", x.bloc(0, -1, s), -2);
            }
            d.due("24 the first skater beyond", x.bloc(0, 127, 4), -1);
            d.due("24 unknown is told first", x.bloc(0, 128, 4), -1);
        }
    }

    private static void whatBlocsGive() {
        ThrownMarks x = Due.cards(2, "55", "05");
        d.due("24 others have 0 of it", x.bloc(0, 1, 0), 1);
        x.mark(1, 1, 0);
        x.mark(1, 0, 1);
        d.due("24 so that the other one is behind", x.bloc(0, 1, 1), 1);
        ThrownMarks y = Due.cards(2, "00", "05", "01");
        d.due("24 it has 5 of it, and no more", y.bloc(0, 1, 0), 2);
        y.mark(2, 1, 0);
        d.due("24 which is enough to be alike", y.bloc(0, 1, 0), 1);
        ThrownMarks z = seven("05");
        for (int j = 0; j < 7; j++) {
            z.lose(j, true);
        }
        d.due("24 all are lost, nobody", z.bloc(0, 0, 0), 1);
        d.due("24 all are lost, the last counts then", z.bloc(0, 64, 0), 1);
        z.lose(0, false);
        d.due("24 one counts", z.bloc(0, 0, 0), 2);
        d.due("24 a lost one makes them alike", z.bloc(0, 64, 0), 1);
        d.due("24 it is lost still", z.count(2), 1);
        Due.rule(z, 1, "W9000008");
        d.due("24 and by less weight does not", z.bloc(1, 64, 0), 2);
    }

    /** All judges together bring any skater to place 1 by any rule, so that NONE is never the answer. */
    private static void fewBringAny() {
        for (String rule : RULES) {
            ThrownMarks x = seven("0355");
            Due.rule(x, 0, rule);
            for (int s = 0; s < 4; s++) {
                for (int place = 1; place <= 4; place++) {
                    int set = x.few(0, s, place);
                    d.due("25 there is a set by " + rule, set >= 0 && set < 128 ? 1 : 0, 1);
                    d.due("25 it brings it there by " + rule, x.bloc(0, set, s) <= place ? 1 : 0, 1);
                    d.due("25 nobody, if it is there, by " + rule, set == 0 ? 1 : 0, x.place(0, s) <= place ? 1 : 0);
                }
                d.due("25 the first place beyond", x.few(0, s, 5), -2);
                d.due("25 the first below", x.few(0, s, 0), -2);
            }
            d.due("25 unknown is told first", x.few(0, 4, 5), -1);
        }
    }

    private static void fewest() {
        ThrownMarks x = seven("05");
        d.due("25 four of seven", x.few(0, 0, 1), 15);
        d.due("25 place 2 it has", x.few(0, 0, 2), 0);
        Due.rule(x, 1, "W1111111");
        x.lose(0, true);
        d.due("25 six count: three, of those the least bits", x.few(1, 0, 1), 14);
        for (int j = 1; j < 7; j++) {
            x.lose(j, true);
        }
        d.due("25 all are lost", x.few(0, 0, 1), 0);
        d.due("25 one judge", Due.cards(2, "05").few(0, 0, 1), 1);
        ThrownMarks y = Due.cards(2, "05", "05", "05", "05");
        Due.rule(y, 0, "W1555");
        d.due("25 two: of 6, 10 and 12 the least", y.few(0, 0, 1), 6);
        Due.rule(y, 0, "W1117");
        d.due("25 one with great bits before two with small ones", y.few(0, 0, 1), 8);
        Due.rule(y, 0, "W0000");
        d.due("25 nobody before all", y.few(0, 0, 1), 0);
        ThrownMarks z = Due.cards(4, "0555", "0005");
        d.due("25 to place 1", z.few(0, 0, 1), 1);
        d.due("25 to place 2", z.few(0, 0, 2), 1);
        d.due("25 to place 3", z.few(0, 0, 3), 1);
        d.due("25 to place 4", z.few(0, 0, 4), 0);
        ThrownMarks w = Due.cards(4, "0555", "0005", "0005");
        d.due("25 to place 2, the least of the three", w.few(0, 0, 2), 1);
        d.due("25 to place 1, two", w.few(0, 0, 1), 3);
    }

    private static void drawnOfAll() {
        int[] sets = {7, 21, 35, 35, 21, 7, 1};
        for (int k = 1; k <= 7; k++) {
            d.due("26 one skater, " + k + " of seven", seven("0").drawn(0, 0, k), sets[k - 1]);
            d.due("26 four skaters, " + k + " of seven", seven("0050").drawn(0, 2, k), sets[k - 1]);
            d.due("26 one that is behind", seven("0050").drawn(0, 3, k), 0);
            d.due("26 two that are alike", seven("5050").drawn(0, 2, k), 0);
        }
        d.due("26 the first beyond", seven("0").drawn(0, 0, 8), -2);
        d.due("26 the first below", seven("0").drawn(0, 0, 0), -2);
        d.due("26 the first skater beyond", seven("0").drawn(0, 1, 8), -1);
    }

    private static void drawnOfThoseThatCount() {
        int[][] sets = {{7, 21, 35, 35, 21, 7, 1}, {6, 15, 20, 15, 6, 1, 0}, {5, 10, 10, 5, 1, 0, 0}, {4, 6, 4, 1, 0, 0, 0},
            {3, 3, 1, 0, 0, 0, 0}, {2, 1, 0, 0, 0, 0, 0}, {1, 0, 0, 0, 0, 0, 0}, {0, 0, 0, 0, 0, 0, 0}};
        ThrownMarks x = seven("50");
        for (int lost = 0; lost <= 7; lost++) {
            for (int k = 1; k <= 7; k++) {
                d.due("26 " + k + ", and lost are " + lost, x.drawn(0, 0, k), sets[lost][k - 1]);
            }
            d.due("26 eight are bad, and not more than count", x.drawn(0, 0, 8), -2);
            x.lose(6 - lost, true);
        }
    }

    /** The last judge alone tells two skaters apart, so that it must be drawn. */
    private static void drawnAlone() {
        int[] sets = {1, 6, 15, 20, 15, 6, 1};
        ThrownMarks x = Due.cards(2, "00", "00", "00", "00", "00", "00", "05");
        for (int k = 1; k <= 7; k++) {
            d.due("26 the last is among " + k, x.drawn(0, 1, k), sets[k - 1]);
            d.due("26 the other is never alone", x.drawn(0, 0, k), 0);
        }
        Due.rule(x, 0, "S1");
        d.due("26 of two all is struck", x.drawn(0, 1, 2), 0);
        d.due("26 of three the greatest is", x.drawn(0, 1, 3), 0);
        Due.rule(x, 0, "P");
        d.due("26 one that gives more is more than none", x.drawn(0, 1, 7), 1);
    }

    private static void leftOut() {
        ThrownMarks x = Due.cards(2, "10", "10", "10", "10", "02", "01", "01");
        d.due("27 both are first", x.first(0), 3);
        d.due("27 without any of seven one is", x.leftOut(0), 7);
        x.lose(6, true);
        d.due("27 of six four", x.leftOut(0), 4);
        for (int j = 0; j < 5; j++) {
            x.lose(j, true);
        }
        d.due("27 the last that counts", x.leftOut(0), 1);
        x.lose(5, true);
        d.due("27 all are lost", x.leftOut(0), 0);
        d.due("27 the only one, all alike", Due.cards(4, "3333").leftOut(0), 0);
        d.due("27 the only one, one is first", Due.cards(4, "3334").leftOut(0), 1);
        d.due("27 the only one, three are first", Due.cards(4, "4434").leftOut(0), 1);
        d.due("27 none of seven alike", seven("5432").leftOut(0), 0);
        ThrownMarks y = Due.cards(3, "500", "050", "004");
        d.due("27 another set, whether alone or not", y.leftOut(0), 2);
        d.due("27 a rule beyond", y.leftOut(3), -1);
        d.due("27 a rule below", y.leftOut(-1), -1);
    }

    /** By R judge 0 (4 to 0 with 2 between) puts 0 ahead by 4, the other one 1 ahead by 2; 5 for the third makes it 2. */
    private static void turnedByOneMark() {
        ThrownMarks x = Due.cards(3, "402", "120");
        Due.rule(x, 0, "R");
        d.due("28 0 is ahead by 2", x.worth(0, 0, 0) - x.worth(0, 1, 0), 2);
        d.due("28 5 alone makes them alike, which turns", x.turns(0, 0, 1, 2), 1);
        x.card(0, Due.row("502"));
        d.due("28 alike with 5 it is not enough", x.turns(0, 0, 1, 2), 0);
        x.card(0, Due.row("512"));
        d.due("28 0 alone makes them alike", x.turns(0, 0, 1, 2), 1);
        ThrownMarks y = Due.cards(3, "120", "330", "330", "330", "330", "330", "402");
        Due.rule(y, 2, "R");
        d.due("28 the last of seven judges", y.turns(2, 0, 1, 2), 1);
        d.due("28 the other way it is not ahead", y.turns(2, 1, 0, 2), -3);
        y.lose(6, true);
        d.due("28 without it, behind", y.turns(2, 0, 1, 2), -3);
        d.due("28 without it, nobody can", y.turns(2, 1, 0, 2), 0);
        for (String rule : new String[] {"S0", "S1", "M", "W12", "P"}) {
            ThrownMarks z = Due.cards(3, "541", "302");
            Due.rule(z, 0, rule);
            int due = rule.equals("S1") ? -3 : 0;
            d.due("28 not by " + rule, z.turns(0, 0, 1, 2), due);
        }
    }

    private static void turnsRefusals() {
        ThrownMarks x = Due.cards(4, "5432");
        for (int a = -1; a <= 4; a++) {
            for (int b = -1; b <= 4; b++) {
                for (int third = -1; third <= 4; third++) {
                    boolean unknown = Math.min(a, Math.min(b, third)) < 0 || Math.max(a, Math.max(b, third)) > 3;
                    boolean bad = a == b || a == third || b == third;
                    int due = unknown ? -1 : bad ? -2 : a > b ? -3 : 0;
                    d.due("28 turns " + a + " " + b + " " + third, x.turns(0, a, b, third), due);
                }
            }
        }
        d.due("28 a rule beyond is told before bad", x.turns(3, 1, 1, 1), -1);
        d.due("28 a rule beyond is told before late", x.turns(-1, 1, 0, 2), -1);
        x.lose(0, true);
        d.due("28 all are lost, none is ahead", x.turns(0, 0, 1, 2), -3);
    }

    private static void thirds() {
        ThrownMarks x = Due.cards(3, "402", "120");
        Due.rule(x, 0, "R");
        d.due("29 of three skaters two ways", x.thirds(0), 2);
        d.due("28 the first", x.turns(0, 0, 1, 2), 1);
        d.due("28 not this one", x.turns(0, 0, 2, 1), 0);
        d.due("28 the second", x.turns(0, 1, 2, 0), 1);
        x.lose(1, true);
        x.lose(0, true);
        d.due("29 all are lost", x.thirds(0), 0);
        ThrownMarks two = Due.cards(2, "40", "12");
        Due.rule(two, 0, "R");
        d.due("29 of two skaters", two.thirds(0), 0);
        ThrownMarks alike = seven("3333");
        Due.rule(alike, 0, "R");
        d.due("29 none is ahead", alike.thirds(0), 0);
        ThrownMarks four = Due.cards(4, "4025", "1200");
        Due.rule(four, 0, "R");
        d.due("28 of four skaters by one", four.turns(0, 0, 1, 2), 1);
        d.due("28 and not by the other", four.turns(0, 0, 1, 3), 0);
        d.due("29 a rule beyond", x.thirds(3), -1);
        d.due("29 a rule below", x.thirds(-1), -1);
    }
}
