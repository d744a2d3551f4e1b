/** The boundary cases of section 4, and of promises 30 to 35. */
public final class EdgesOfPastTest {
    private static final Due d = new Due("edges of the past");

    public static void main(String[] args) {
        none();
        eight();
        forgotten();
        greatestLean();
        leastLean();
        oneJudge();
        allLost();
        landWithoutSkaters();
        landsAsThen();
        otherPanels();
        seldomAmongLost();
        leanerOfLikeOnes();
        leanerOfThoseThatLeanAway();
        againEach();
        d.end();
    }

    private static ThrownMarks seven(String others, String last) {
        return Due.cards(4, others, others, others, others, others, others, last);
    }

    private static void none() {
        ThrownMarks x = seven("0000", "5555");
        for (int j = 0; j < 7; j++) {
            d.due("32 nothing was kept", x.lean(j), 0);
            d.due("33 there are no such cards", x.seldom(j), 0);
        }
        d.due("32 the first judge beyond", x.lean(7), -1);
        d.due("32 the first below", x.lean(-1), -1);
        d.due("33 the first judge beyond", x.seldom(7), -1);
        d.due("33 the first below", x.seldom(-1), -1);
        d.due("34 no past cards", x.leaner(), -9);
        d.due("35 no past card", x.again(0), -1);
        d.due("31 none to forget", x.forget(), 0);
    }

    private static void eight() {
        ThrownMarks x = new ThrownMarks();
        for (int i = 0; i < 8; i++) {
            x.panel(i % 7 + 1, i % 4 + 1);
            x.mark(i % 7, i % 4, i % 5 + 1);
            d.due("30 the first beyond of " + i, x.again(i), -1);
            d.due("30 kept are", x.keep(), i + 1);
            d.due("30 the newest", x.again(i), (i % 7 + 1) * (i % 4 + 1));
        }
        x.panel(7, 4);
        d.due("30 the ninth", x.keep(), -4);
        d.due("30 eight are", x.count(4), 8);
        d.due("35 the ninth is none", x.again(8), -1);
        d.due("35 the first below", x.again(-1), -1);
        d.due("35 what was refused is not the card", x.count(0), 7);
        for (int i = 7; i >= 0; i--) {
            d.due("35 past " + i, x.again(i), (i % 7 + 1) * (i % 4 + 1));
            d.due("35 judges of " + i, x.count(0), i % 7 + 1);
            d.due("35 skaters of " + i, x.count(1), i % 4 + 1);
            d.due("35 the mark of " + i, x.at(i % 7, i % 4), i % 5 + 1);
        }
        d.due("30 the ninth still", x.keep(), -4);
    }

    private static void forgotten() {
        ThrownMarks x = seven("0000", "5555");
        for (int i = 0; i < 8; i++) {
            x.keep();
        }
        d.due("31 eight", x.forget(), 8);
        d.due("31 none", x.forget(), 0);
        d.due("31 counted", x.count(4), 0);
        d.due("32 forgotten", x.lean(6), 0);
        d.due("33 forgotten", x.seldom(6), 0);
        d.due("34 forgotten", x.leaner(), -9);
        d.due("35 forgotten", x.again(0), -1);
        d.due("30 the first again", x.keep(), 1);
        d.due("32 of one card", x.lean(6), 120);
    }

    /** 5 for each of 4 skaters of its land, 0 of 6 others, in 8 cards: 5 * 6 * 4 * 8. */
    private static void greatestLean() {
        ThrownMarks x = seven("0000", "5555");
        for (int i = 1; i <= 8; i++) {
            x.keep();
            d.due("32 of " + i + " cards", x.lean(6), 120 * i);
            d.due("32 of another one", x.lean(0), -20 * i);
        }
        d.due("33 it alone", x.seldom(6), 1);
        d.due("33 all have as much or more", x.seldom(0), 7);
        d.due("34 the last judge", x.leaner(), 6);
    }

    private static void leastLean() {
        ThrownMarks x = seven("5555", "0000");
        for (int i = 1; i <= 8; i++) {
            x.keep();
            d.due("32 of " + i + " cards", x.lean(6), -120 * i);
            d.due("32 of another one", x.lean(0), 20 * i);
        }
        d.due("33 all", x.seldom(6), 7);
        d.due("33 six", x.seldom(5), 6);
        d.due("34 the first judge", x.leaner(), 0);
    }

    private static void oneJudge() {
        ThrownMarks x = Due.cards(1, "5");
        x.keep();
        d.due("32 no others count", x.lean(0), 0);
        d.due("33 itself", x.seldom(0), 1);
        d.due("33 one that stands nowhere", x.seldom(1), 0);
        d.due("34 of seven that lean by 0 the least", x.leaner(), 0);
        ThrownMarks y = Due.cards(1, "3", "5", "5");
        y.lose(0, true);
        y.lose(1, true);
        y.keep();
        d.due("32 no others count, for they are lost", y.lean(2), 0);
        d.due("33 itself alone", y.seldom(2), 1);
        d.due("33 one that is lost", y.seldom(1), 0);
    }

    private static void allLost() {
        ThrownMarks x = seven("0000", "5555");
        for (int j = 0; j < 7; j++) {
            x.lose(j, true);
        }
        x.keep();
        for (int j = 0; j < 7; j++) {
            d.due("32 all are lost", x.lean(j), 0);
            d.due("33 all are lost", x.seldom(j), 0);
        }
        d.due("34 all are lost, but there is a card", x.leaner(), 0);
        x.lose(6, false);
        d.due("32 it was lost then", x.lean(6), 0);
        x.lose(5, false);
        x.keep();
        d.due("32 in the second card", x.lean(6), 20);
        d.due("33 in the second card two count", x.seldom(5), 2);
    }

    private static void landWithoutSkaters() {
        ThrownMarks x = seven("0000", "5555");
        x.land(false, 6, 3);
        x.keep();
        d.due("32 its land has none", x.lean(6), 0);
        d.due("33 all lean by 0 for that land", x.seldom(6), 7);
        for (int s = 0; s < 4; s++) {
            x.land(true, s, 3);
        }
        x.keep();
        d.due("32 its land has four", x.lean(6), 120);
        d.due("32 the other land has none in the second card", x.lean(0), -20);
        d.due("33 it alone has so much", x.seldom(6), 1);
    }

    /** Judge 1 is asked for as if it were of the land that judge 0 had in each card. */
    private static void landsAsThen() {
        ThrownMarks x = Due.cards(2, "50", "14");
        x.land(true, 1, 1);
        x.keep();
        x.land(false, 0, 1);
        x.keep();
        x.land(false, 0, 3);
        x.land(true, 0, 2);
        d.due("32 4 in the first, -4 in the second", x.lean(0), 0);
        d.due("32 -4 in each", x.lean(1), -8);
        d.due("33 -4 and 4 are as much", x.seldom(0), 2);
        d.due("33 judge 0 has 4 and 4 for the land of judge 1", x.seldom(1), 2);
        x.again(0);
        d.due("35 the land of then", x.land(false, 0, 0), 0);
        x.again(1);
        d.due("35 the land of the second", x.land(false, 0, 0), 1);
        d.due("35 the land of the skater", x.land(true, 0, 0), 0);
    }

    private static void otherPanels() {
        ThrownMarks x = seven("0000", "5555");
        x.keep();
        x.panel(2, 1);
        x.card(1, 3);
        x.keep();
        d.due("32 judge 6 stands in the first", x.lean(6), 120);
        d.due("32 judge 1 stands in both", x.lean(1), -20 + 3);
        d.due("33 judge 6 in the first", x.seldom(6), 1);
        d.due("33 judge 1 in both: 6 in the first alone, 0 in both, others in the first", x.seldom(1), 2);
        d.due("33 judge 0 has -20 and -3", x.seldom(0), 7);
        d.due("34 who is no judge now", x.leaner(), 6);
        d.due("33 no more than 7", x.seldom(7), -1);
        x.panel(1, 1);
        d.due("32 who is no judge now", x.lean(6), 120);
    }

    private static void seldomAmongLost() {
        ThrownMarks x = Due.cards(1, "3", "3", "5");
        x.lose(2, true);
        x.keep();
        x.lose(2, false);
        x.lose(1, true);
        x.keep();
        d.due("32 of 0: 0 and -2", x.lean(0), -2);
        d.due("33 1 has 0 in the first, 2 has 2 in the second", x.seldom(0), 3);
        d.due("32 of 1: 0", x.lean(1), 0);
        d.due("33 in the first card alone 0 and 1", x.seldom(1), 2);
        d.due("32 of 2: 2", x.lean(2), 2);
        d.due("33 in the second card alone 2", x.seldom(2), 1);
        x.lose(0, true);
        x.lose(2, true);
        x.keep();
        d.due("33 a card in which none counts tells nothing", x.seldom(0), 3);
    }

    private static void leanerOfLikeOnes() {
        ThrownMarks x = Due.cards(1, "4", "4", "4", "4", "4", "4", "4");
        x.keep();
        d.due("34 all alike, the least", x.leaner(), 0);
        x.mark(0, 0, 0);
        x.keep();
        d.due("34 six alike, the least of them", x.leaner(), 1);
        x.mark(5, 0, 5);
        x.mark(6, 0, 5);
        x.keep();
        d.due("34 the last two alike", x.leaner(), 5);
        d.due("34 they are", x.lean(5) - x.lean(6), 0);
    }

    /** Each land gives its own skater 0 and the other one 5, so that all seven lean by less than 0. */
    private static void leanerOfThoseThatLeanAway() {
        ThrownMarks x = Due.cards(2, "05", "05", "05", "05", "50", "50", "50");
        x.land(true, 1, 1);
        for (int j = 4; j < 7; j++) {
            x.land(false, j, 1);
        }
        x.keep();
        d.due("32 0 * 6 less three times 5", x.lean(3), -15);
        d.due("32 0 * 6 less four times 5", x.lean(4), -20);
        d.due("34 the least of four", x.leaner(), 0);
        x.mark(5, 1, 4);
        x.keep();
        d.due("32 less three times 5, and again", x.lean(0), -30);
        d.due("32 less four times 5, and 24 less four times 5", x.lean(5), -16);
        d.due("34 one with less than 0", x.leaner(), 5);
    }

    private static void againEach() {
        ThrownMarks x = seven("1234", "5432");
        Due.rule(x, 0, "W1234567/P");
        x.lose(6, true);
        x.keep();
        x.panel(1, 1);
        d.due("35 how many marks", x.again(0), 28);
        d.due("35 what is lost", x.count(2), 6);
        d.due("35 lost ones' marks", x.card(6, 0), Due.row("5432"));
        d.due("35 what was kept does not change with the card", x.again(0), 28);
        d.due("35 the mark is there again", x.at(6, 0), 5);
        d.due("35 rules stay", x.part(0, 1), 3);
        d.due("35 the text stays", x.count(3), 10);
        d.due("35 the past stays", x.count(4), 1);
        d.due("35 it may be kept again", x.keep(), 2);
        for (int i = 3; i <= 8; i++) {
            x.keep();
        }
        d.due("35 the eighth", x.again(7), 28);
        d.due("35 the ninth", x.again(8), -1);
    }
}
