/** The boundary cases of section 2 that are of one judge, and of promises 18 to 23. */
public final class EdgesOfJudgesTest {
    private static final Due d = new Due("edges of one judge");

    public static void main(String[] args) {
        leastPanel();
        firstRow();
        everyPlace();
        whatItGivesNow();
        countsThen();
        sevenJudges();
        ranksAndPairs();
        bendsByLand();
        bendsByLesserPlaces();
        bentByAll();
        strikes();
        strikesOfMany();
        moves();
        d.end();
    }

    private static void reach(ThrownMarks x, int judge, int skater, int place, String row) {
        d.due("18 judge " + judge + " for skater " + skater, x.could(0, judge, skater), place);
        d.due("19 judge " + judge + " for skater " + skater, x.best(0, judge, skater), Due.row(row));
    }

    private static void leastPanel() {
        for (String mark : new String[] {"0", "5"}) {
            ThrownMarks x = Due.cards(1, mark);
            for (int time = 0; time < 2; time++) {
                reach(x, 0, 0, 1, "0");
                d.due("20 one judge, one skater", x.bends(0, 0), 0);
                d.due("21 one judge, one skater", x.bent(0), 0);
                d.due("22 one judge, one skater", x.strike(), 0);
                d.due("23 one judge, one skater", x.move(0, 0, 0, 5), 10);
                x.lose(0, true);
            }
            d.due("18 the first judge beyond", x.could(0, 1, 0), -1);
            d.due("19 the first skater beyond", x.best(0, 0, 1), -1);
            d.due("20 the first judge beyond", x.bends(0, 1), -1);
        }
    }

    /** The first row is the least number, that of skater 0 its highest figure. */
    private static void firstRow() {
        ThrownMarks x = Due.cards(4, "0555", "1234");
        reach(x, 1, 0, 1, "5000");
        reach(x, 1, 1, 1, "0000");
        ThrownMarks y = Due.cards(4, "5550", "1234");
        reach(y, 1, 3, 1, "0005");
        reach(y, 1, 0, 1, "0000");
        ThrownMarks z = Due.cards(4, "5055", "5505", "1111");
        reach(z, 2, 1, 1, "0500");
        reach(z, 2, 2, 1, "0050");
        reach(z, 2, 0, 1, "0000");
    }

    private static void everyPlace() {
        ThrownMarks x = Due.cards(4, "0105", "0005", "3210");
        reach(x, 2, 0, 2, "1000");
        reach(x, 2, 3, 1, "0000");
        ThrownMarks y = Due.cards(4, "0155", "0055", "3210");
        reach(y, 2, 0, 3, "1000");
        ThrownMarks z = Due.cards(4, "0555", "0555", "5000");
        reach(z, 2, 0, 4, "0000");
    }

    private static void whatItGivesNow() {
        for (String now : new String[] {"0000", "5000", "0555", "5555", "0005"}) {
            ThrownMarks x = Due.cards(4, "0345", now, "5555");
            reach(x, 1, 0, 1, "5000");
            reach(x, 1, 2, 1, "0010");
            d.due("18 asked, it gives what it gave", x.card(1, 0), Due.row(now));
        }
    }

    /** A judge that is lost counts then; those others that are lost do not. */
    private static void countsThen() {
        ThrownMarks x = Due.cards(3, "500", "150");
        x.lose(0, true);
        reach(x, 0, 2, 1, "005");
        reach(x, 1, 2, 1, "000");
        d.due("18 it is lost still", x.lose(0, true), 1);
        x.lose(1, true);
        for (int j = 0; j < 2; j++) {
            for (int s = 0; s < 3; s++) {
                reach(x, j, s, 1, "000");
            }
            d.due("20 all are lost and at place 1", x.bends(0, j), 0);
        }
        d.due("21 all are lost", x.bent(0), 0);
        d.due("22 all are lost", x.strike(), 0);
        ThrownMarks y = Due.cards(2, "30", "00");
        y.lose(1, true);
        d.due("20 what is lost bends", y.bends(0, 1), 1);
        y.mark(0, 0, 5);
        d.due("20 alike is enough", y.bends(0, 1), 1);
        Due.rule(y, 1, "W21");
        d.due("20 too little", y.bends(1, 1), 0);
    }

    /** Of seven the middle is the fourth; skater 0 has three times 1 and three times 4, skater 1 has 3 in the midst. */
    private static void sevenJudges() {
        String[] rules = {"S3", "M", "S3/M/S3"};
        for (String rule : rules) {
            ThrownMarks x = Due.cards(4, "1300", "1300", "1300", "4300", "4300", "4300", "0000");
            Due.rule(x, 0, rule);
            reach(x, 6, 0, 1, "3000");
            reach(x, 6, 2, 3, "0000");
            x.lose(6, true);
            reach(x, 6, 0, 1, "3000");
        }
        ThrownMarks x = Due.cards(4, "1300", "1300", "1300", "4300", "4300", "4300", "0000");
        Due.rule(x, 0, "S3");
        x.lose(0, true);
        reach(x, 6, 0, 1, "0000");
        reach(x, 6, 3, 1, "0000");
    }

    /** Another judge ranks all contrary: each must be ahead of the next that the skater may be first. */
    private static void ranksAndPairs() {
        for (String rule : new String[] {"R", "P", "R/P", "W00/P", "P/W00/R"}) {
            ThrownMarks x = Due.cards(4, "0123", "5555");
            Due.rule(x, 0, rule);
            reach(x, 1, 0, 1, "3210");
            reach(x, 1, 3, 1, "0000");
        }
    }

    private static void bendsByLand() {
        for (int land = 0; land < 4; land++) {
            ThrownMarks x = Due.cards(4, "3210", "0000");
            for (int s = 0; s < 4; s++) {
                x.land(true, s, s);
            }
            x.land(false, 1, land);
            d.due("20 its land is first, or it bends: " + land, x.bends(0, 1), land == 0 ? 0 : 1);
            d.due("21 as bits: " + land, x.bent(0), land == 0 ? 0 : 2);
            x.land(true, land, (land + 1) % 4);
            d.due("20 a land without skaters: " + land, x.bends(0, 1), 0);
        }
    }

    private static void bendsByLesserPlaces() {
        ThrownMarks x = Due.cards(2, "10", "00");
        String[] rules = {"W10", "W90", "W91", "W61", "W51", "W11"};
        int[] due = {0, 0, 0, 0, 1, 1};
        for (int i = 0; i < rules.length; i++) {
            Due.rule(x, 0, rules[i]);
            d.due("20 alike is a lesser place, behind is not: " + rules[i], x.bends(0, 1), due[i]);
        }
        ThrownMarks y = Due.cards(3, "530", "000");
        y.land(true, 1, 1);
        d.due("20 one of its land is first, another one third", y.bends(0, 1), 1);
        y.land(true, 2, 1);
        d.due("20 the first alone is of its land", y.bends(0, 1), 0);
        ThrownMarks z = new ThrownMarks();
        d.due("20 all are at place 1", z.bends(0, 4), 0);
        d.due("21 none bends", z.bent(0), 0);
        ThrownMarks w = Due.cards(4, "3005", "3505", "3505");
        w.land(false, 0, 1);
        w.land(true, 2, 1);
        Due.rule(w, 0, "S0");
        d.due("20 from place 4 to place 4", w.bends(0, 0), 0);
        w.mark(2, 1, 1);
        w.mark(1, 1, 0);
        d.due("20 from place 4 to place 3", w.bends(0, 0), 1);
    }

    private static void bentByAll() {
        ThrownMarks x = Due.cards(2, "10", "10", "10", "10", "00", "00", "00");
        d.due("21 all seven", x.bent(0), 127);
        for (int j = 0; j < 7; j++) {
            x.land(false, j, j % 4);
        }
        x.land(true, 1, 1);
        d.due("21 two of its land", x.bent(0), 2 + 32);
        x.land(true, 1, 3);
        d.due("21 the one of its land", x.bent(0), 8);
        x.land(true, 1, 0);
        d.due("21 the first and the fifth", x.bent(0), 1 + 16);
        x.lose(0, true);
        d.due("21 what is lost too", x.bent(0), 1 + 16);
        d.due("21 a rule beyond", x.bent(3), -1);
        d.due("21 a rule below", x.bent(-1), -1);
    }

    private static void strikes() {
        d.due("22 one judge: all is struck by S1", Due.cards(2, "10").strike(), 1);
        d.due("22 of two judges as well", Due.cards(2, "10", "10").strike(), 1);
        ThrownMarks x = Due.cards(2, "50", "50", "50", "50", "50", "50", "50");
        d.due("22 none can, the least k", x.strike(), 0);
        ThrownMarks y = Due.cards(2, "10", "10", "10", "10", "00", "00", "00");
        y.land(true, 0, 1);
        y.land(true, 1, 1);
        d.due("22 no skater of their land, the least k", y.strike(), 0);
        ThrownMarks z = Due.cards(2, "32", "32", "32", "32", "32", "02", "02");
        d.due("22 the greatest k", z.strike(), 3);
        d.due("22 rules are as they were", z.part(0, 0) + z.worth(0, 0, 0), 15);
    }

    /** How many bend S0 to S3, and the first k that the fewest bend; six and seven judges among them. */
    private static void strikesOfMany() {
        String[][] cards = {
            {"504", "043", "043", "412", "113", "043", "502"},
            {"050", "440", "414", "503", "120", "035", "004"},
            {"33", "42", "53", "10", "23", "25", "10"},
            {"20", "52", "13", "13", "51", "00", "13"},
            {"535", "515", "041", "533", "004", "004", "004"},
            {"144", "441", "430", "320", "112", "144", "144"}};
        int[][] many = {{7, 6, 7, 7}, {7, 7, 7, 7}, {7, 7, 7, 6}, {7, 7, 6, 5}, {6, 6, 6, 7}, {6, 7, 6, 7}};
        int[] due = {1, 0, 3, 3, 0, 0};
        for (int i = 0; i < cards.length; i++) {
            ThrownMarks x = Due.cards(cards[i][0].length(), cards[i]);
            for (int k = 0; k < 4; k++) {
                Due.rule(x, 1, "S" + k);
                d.due("21 card " + i + ", S" + k, Integer.bitCount(x.bent(1)), many[i][k]);
            }
            d.due("22 card " + i, x.strike(), due[i]);
        }
    }

    private static void moves() {
        ThrownMarks x = Due.cards(4, "3333");
        int[] due = {7, 7, 7, 10, 10, 10};
        for (int v = 0; v <= 5; v++) {
            for (int s = 0; s < 4; s++) {
                d.due("23 from place 1 by " + v, x.move(0, 0, s, v), due[v]);
            }
        }
        ThrownMarks y = Due.cards(4, "3330", "0000", "0000", "0000", "0000", "0000", "0000");
        int[] up = {10, 10, 10, 13, 13, 13};
        for (int v = 0; v <= 5; v++) {
            d.due("23 from place 4 by " + v, y.move(0, 6, 3, v), up[v]);
        }
        d.due("23 the first mark beyond", y.move(0, 6, 3, 6), -2);
        d.due("23 the first below", y.move(0, 6, 3, -1), -2);
        d.due("23 the first judge beyond", y.move(0, 7, 3, 5), -1);
        d.due("23 the first skater beyond", y.move(0, 6, 4, 5), -1);
        d.due("23 unknown is told first", y.move(0, 6, 4, 6), -1);
        d.due("23 the mark is as it was", y.at(6, 3), 0);
        ThrownMarks z = Due.cards(4, "4310", "0000");
        int[] middle = {10, 10, 11, 12, 12, 12};
        for (int v = 0; v <= 5; v++) {
            d.due("23 from place 3 by " + v, z.move(0, 1, 2, v), middle[v]);
        }
        for (int j = 0; j < 7; j++) {
            y.lose(j, true);
        }
        for (int v = 0; v <= 5; v++) {
            d.due("23 all are lost, and stay so: " + v, y.move(0, 6, 3, v), 10);
        }
    }
}
