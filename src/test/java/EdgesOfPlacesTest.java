/** The boundary cases of section 1 that are of worth and place, and of promises 13 to 17. */
public final class EdgesOfPlacesTest {
    private static final Due d = new Due("edges of places");
    private static final int[] MARKS = {5, 0, 4, 1, 3, 2, 2};
    /** By rows S0, S1, S2, S3, M; by columns no judge that counts, the first one, the first two and so on. */
    private static final int[][] OF_THE_FIRST = {
        {0, 5, 5, 9, 10, 13, 15, 17},
        {0, 0, 0, 4, 5, 8, 10, 12},
        {0, 0, 0, 0, 0, 3, 5, 7},
        {0, 0, 0, 0, 0, 0, 0, 2},
        {0, 10, 5, 8, 5, 6, 5, 4}};

    public static void main(String[] args) {
        strikesAndMiddle();
        strikesAndMiddleOfThoseThatCount();
        ranks();
        pairs();
        weights();
        figuresToldAnew();
        partsOfWorth();
        places();
        partByPart();
        order();
        first();
        apart();
        d.end();
    }

    private static ThrownMarks alone(int judges) {
        ThrownMarks x = new ThrownMarks();
        x.panel(judges, 1);
        for (int j = 0; j < judges; j++) {
            x.mark(j, 0, MARKS[j]);
        }
        return x;
    }

    private static void strikesOf(ThrownMarks x, String who, int counting) {
        for (int k = 0; k < 4; k++) {
            Due.rule(x, 0, "S" + k);
            d.due("13 S" + k + " of " + counting + who, x.worth(0, 0, 0), OF_THE_FIRST[k][counting]);
        }
        Due.rule(x, 0, "M");
        d.due("13 M of " + counting + who, x.worth(0, 0, 0), OF_THE_FIRST[4][counting]);
    }

    private static void strikesAndMiddle() {
        for (int n = 1; n <= 7; n++) {
            strikesOf(alone(n), " judges", n);
        }
    }

    private static void strikesAndMiddleOfThoseThatCount() {
        ThrownMarks x = alone(7);
        for (int n = 6; n >= 0; n--) {
            x.lose(n, true);
            strikesOf(x, " that count", n);
        }
    }

    private static void worths(String rule, int skaters, String[] rows, int... due) {
        ThrownMarks x = Due.cards(skaters, rows);
        Due.rule(x, 0, rule);
        for (int s = 0; s < skaters; s++) {
            d.due("13 " + rule + " of skater " + s + " by " + rows.length + " judges", x.worth(0, s, 0), due[s]);
        }
    }

    private static String[] seven(String row) {
        return new String[] {row, row, row, row, row, row, row};
    }

    private static void ranks() {
        worths("R", 1, new String[] {"5"}, 0);
        worths("R", 1, seven("5"), 0);
        worths("R", 2, new String[] {"50"}, 2, 0);
        worths("R", 2, new String[] {"33"}, 1, 1);
        worths("R", 4, seven("5432"), 42, 28, 14, 0);
        worths("R", 4, seven("2222"), 21, 21, 21, 21);
        worths("R", 4, seven("0005"), 14, 14, 14, 42);
        ThrownMarks x = Due.cards(4, seven("5432"));
        Due.rule(x, 0, "R");
        for (int j = 0; j < 7; j++) {
            x.lose(j, true);
            d.due("13 R without " + (j + 1), x.worth(0, 0, 0), 6 * (6 - j));
        }
    }

    private static void pairs() {
        worths("P", 1, new String[] {"5"}, 0);
        worths("P", 2, new String[] {"50"}, 2, 0);
        worths("P", 2, new String[] {"33"}, 1, 1);
        worths("P", 4, seven("5432"), 6, 4, 2, 0);
        worths("P", 4, seven("4444"), 3, 3, 3, 3);
        worths("P", 2, new String[] {"10", "10", "10", "05", "05", "05", "22"}, 1, 1);
        worths("P", 2, new String[] {"10", "10", "10", "05", "05", "05", "21"}, 2, 0);
        worths("P", 2, new String[] {"10", "55", "55", "55", "55", "55", "55"}, 2, 0);
        ThrownMarks x = Due.cards(4, "5000", "5000");
        Due.rule(x, 0, "P");
        x.lose(0, true);
        d.due("13 P of one that counts", x.worth(0, 0, 0), 6);
        x.lose(1, true);
        for (int s = 0; s < 4; s++) {
            d.due("13 P of none that counts: as many, for each other skater", x.worth(0, s, 0), 3);
        }
    }

    private static void weights() {
        worths("W9999999", 1, seven("5"), 315);
        worths("W0000000", 1, seven("5"), 0);
        worths("W9999999", 1, seven("0"), 0);
        worths("W9", 4, new String[] {"5310"}, 45, 27, 9, 0);
        worths("W0000009", 2, seven("51"), 45, 9);
        worths("W1000000", 2, seven("51"), 5, 1);
        for (int figure = 0; figure <= 9; figure++) {
            worths("W" + figure, 1, new String[] {"3"}, 3 * figure);
        }
        ThrownMarks x = Due.cards(1, seven("5"));
        Due.rule(x, 0, "W9999999");
        for (int j = 0; j < 7; j++) {
            x.lose(j, true);
            d.due("13 W without " + (j + 1), x.worth(0, 0, 0), 45 * (6 - j));
        }
    }

    /** Figures that are lacking are 0; those that are too many do not count. */
    private static void figuresToldAnew() {
        for (int figures = 1; figures <= 7; figures++) {
            ThrownMarks x = new ThrownMarks();
            x.panel(7, 1);
            Due.rule(x, 1, "S0/W9999999");
            Due.rule(x, 2, "W9999999");
            x.panel(figures, 1);
            Due.rule(x, 2, "W2222222".substring(0, 1 + figures));
            for (int n = 1; n <= 7; n++) {
                x.panel(n, 1);
                for (int j = 0; j < n; j++) {
                    x.mark(j, 0, 5);
                }
                d.due("13 " + figures + " figures, " + n + " judges", x.worth(2, 0, 0), 10 * Math.min(figures, n));
                d.due("13 a second part of seven figures", x.worth(1, 0, 1), 45 * n);
            }
        }
    }

    private static void partsOfWorth() {
        ThrownMarks x = Due.cards(2, "53", "14", "05");
        d.due("13 of one part", x.worth(0, 1, 0), 12);
        d.due("13 the first beyond of one part", x.worth(0, 1, 1), -2);
        Due.rule(x, 0, "S1/M");
        d.due("13 of two parts", x.worth(0, 1, 1), 8);
        d.due("13 the first beyond of two", x.worth(0, 1, 2), -2);
        Due.rule(x, 0, "S1/M/W123");
        d.due("13 of three parts", x.worth(0, 1, 2), 3 + 8 + 15);
        d.due("13 the first beyond of three", x.worth(0, 1, 3), -2);
        d.due("13 the first below", x.worth(0, 1, -1), -2);
        d.due("13 a skater beyond is told first", x.worth(0, 2, 3), -1);
        d.due("13 a rule beyond is told first", x.worth(3, 1, -1), -1);
    }

    private static void places() {
        String[] rows = {"5432", "5555", "5554", "5544", "5444", "5543", "0000", "2345"};
        int[][] due = {{1, 2, 3, 4}, {1, 1, 1, 1}, {1, 1, 1, 4}, {1, 1, 3, 3}, {1, 2, 2, 2}, {1, 1, 3, 4}, {1, 1, 1, 1},
            {4, 3, 2, 1}};
        for (int i = 0; i < rows.length; i++) {
            ThrownMarks x = Due.cards(4, rows[i]);
            for (int s = 0; s < 4; s++) {
                d.due("14 " + rows[i] + " skater " + s, x.place(0, s), due[i][s]);
            }
            d.due("14 the first beyond", x.place(0, 4), -1);
            d.due("14 the first below", x.place(0, -1), -1);
            x.lose(0, true);
            for (int s = 0; s < 4; s++) {
                d.due("14 all are lost", x.place(0, s), 1);
            }
        }
        ThrownMarks one = Due.cards(1, "0");
        d.due("14 one skater", one.place(0, 0), 1);
        one.lose(0, true);
        d.due("14 one skater, lost", one.place(0, 0), 1);
    }

    /** The first part by which two are unlike tells, and none behind it; alike by all three is no one ahead. */
    private static void partByPart() {
        ThrownMarks x = Due.cards(2, "31", "13");
        String[] rules = {"W10/W01/W01", "S0/W10/W01", "S0/M/W10", "S0/M/R", "W01/W10/W10", "P/W01/W10", "P/R/W01"};
        int[][] due = {{1, 2}, {1, 2}, {1, 2}, {1, 1}, {2, 1}, {2, 1}, {2, 1}};
        for (int i = 0; i < rules.length; i++) {
            Due.rule(x, 0, rules[i]);
            d.due("14 " + rules[i] + " skater 0", x.place(0, 0), due[i][0]);
            d.due("14 " + rules[i] + " skater 1", x.place(0, 1), due[i][1]);
        }
    }

    private static void order() {
        for (int m = 1; m <= 4; m++) {
            ThrownMarks x = new ThrownMarks();
            x.panel(1, m);
            for (int i = 0; i < m; i++) {
                x.mark(0, i, i);
            }
            for (int i = 0; i < m; i++) {
                d.due("15 the " + i + "-th of " + m, x.order(0, i), m - 1 - i);
            }
            d.due("15 the first beyond of " + m, x.order(0, m), -9);
            d.due("15 the first below", x.order(0, -1), -9);
            x.lose(0, true);
            for (int i = 0; i < m; i++) {
                d.due("15 of like ones by number", x.order(0, i), i);
            }
            d.due("15 of a rule beyond", x.order(3, m), -1);
        }
    }

    private static void first() {
        for (int m = 1; m <= 4; m++) {
            ThrownMarks x = new ThrownMarks();
            x.panel(7, m);
            d.due("16 all of " + m, x.first(0), (1 << m) - 1);
            for (int s = 0; s < m; s++) {
                x.mark(6, s, 1);
                d.due("16 the first " + (s + 1), x.first(0), (1 << s + 1) - 1);
            }
            x.mark(6, m - 1, 5);
            d.due("16 the last alone", x.first(0), 1 << m - 1);
            x.lose(6, true);
            d.due("16 all of those that are lost", x.first(0), (1 << m) - 1);
        }
    }

    private static void apart() {
        ThrownMarks one = Due.cards(1, "5", "0");
        Due.rule(one, 1, "M");
        d.due("17 of one skater no pair", one.apart(0, 1), 0);
        ThrownMarks x = Due.cards(2, "51", "15");
        Due.rule(x, 0, "W10");
        Due.rule(x, 1, "W01");
        d.due("17 ahead, behind", x.apart(0, 1), 1);
        d.due("17 ahead, alike", x.apart(0, 2), 1);
        d.due("17 alike, behind", x.apart(2, 1), 1);
        d.due("17 alike, alike", x.apart(2, 2), 0);
        Due.rule(x, 1, "W91");
        d.due("17 ahead, ahead, by other worths", x.apart(0, 1), 0);
        ThrownMarks y = Due.cards(4, "5432", "2345");
        Due.rule(y, 0, "W10");
        Due.rule(y, 1, "W01");
        d.due("17 all six pairs", y.apart(0, 1), 6);
        d.due("17 all six, alike in one", y.apart(1, 2), 6);
        y.lose(0, true);
        d.due("17 judge 0 is lost: alike in one", y.apart(0, 1), 6);
        y.lose(1, true);
        d.due("17 all are lost", y.apart(0, 1), 0);
        d.due("17 the first rule beyond", y.apart(3, 0), -1);
        d.due("17 the other rule beyond", y.apart(0, 3), -1);
        d.due("17 both beyond", y.apart(-1, 3), -1);
    }
}
