/** Promises 13 to 17: worth, place, order, first, apart. */
public final class PlaceTest {
    private static final Due d = new Due("places");

    public static void main(String[] args) {
        worth();
        worthOfThree();
        worthOfOtherFigures();
        place();
        order();
        first();
        apart();
        d.end();
    }

    private static void worths(ThrownMarks x, String part, int one, int other) {
        d.due("13 rule " + part, Due.rule(x, 1, part), 1);
        d.due("13 " + part + " of 0", x.worth(1, 0, 0), one);
        d.due("13 " + part + " of 1", x.worth(1, 1, 0), other);
    }

    private static void worth() {
        ThrownMarks x = Due.cards(2, "52", "12", "34", "33", "01");
        worths(x, "S0", 12, 12);
        worths(x, "S1", 7, 7);
        worths(x, "S2", 3, 2);
        worths(x, "S3", 0, 0);
        worths(x, "M", 6, 4);
        worths(x, "R", 3, 7);
        worths(x, "P", 0, 2);
        worths(x, "W12345", 28, 35);
        x.lose(4, true);
        worths(x, "S0", 12, 11);
        worths(x, "S1", 6, 5);
        worths(x, "S2", 0, 0);
        worths(x, "M", 6, 5);
        worths(x, "R", 3, 5);
        worths(x, "P", 0, 2);
        worths(x, "W12345", 28, 30);
        x.lose(3, true);
        x.lose(2, true);
        worths(x, "P", 1, 1);
        worths(x, "M", 6, 4);
        worths(x, "S1", 0, 0);
        x.lose(1, true);
        worths(x, "M", 10, 4);
        x.lose(0, true);
        worths(x, "S0", 0, 0);
        worths(x, "M", 0, 0);
        worths(x, "R", 0, 0);
        worths(x, "P", 1, 1);
        worths(x, "W99999", 0, 0);
        d.refused("13 no rule", -1, y -> y.worth(3, 0, 0));
        d.refused("13 no rule -1", -1, y -> y.worth(-1, 0, 0));
        d.refused("13 no skater", -1, y -> y.worth(0, 3, 0));
        d.refused("13 no skater -1", -1, y -> y.worth(0, -1, 0));
        d.refused("13 no part", -2, y -> y.worth(1, 0, 1));
        d.refused("13 no part 2", -2, y -> y.worth(0, 0, 2));
        d.refused("13 no part -1", -2, y -> y.worth(0, 0, -1));
        d.refused("13 first unknown", -1, y -> y.worth(0, 3, 3));
    }

    private static void worthOfThree() {
        ThrownMarks x = Due.cards(3, "533", "150");
        Due.rule(x, 0, "R/P");
        d.due("13 R of 0", x.worth(0, 0, 0), 4 + 2);
        d.due("13 R of 1", x.worth(0, 1, 0), 1 + 4);
        d.due("13 R of 2", x.worth(0, 2, 0), 1 + 0);
        d.due("13 P of 0", x.worth(0, 0, 1), 1 + 2);
        d.due("13 P of 1", x.worth(0, 1, 1), 1 + 2);
        d.due("13 P of 2", x.worth(0, 2, 1), 0);
        ThrownMarks seven = Due.cards(1, "0", "5", "1", "4", "2", "3", "3");
        Due.rule(seven, 0, "S3/S2/S1");
        d.due("13 S3 of seven", seven.worth(0, 0, 0), 3);
        d.due("13 S2 of seven", seven.worth(0, 0, 1), 2 + 3 + 3);
        d.due("13 S1 of seven", seven.worth(0, 0, 2), 1 + 2 + 3 + 3 + 4);
        Due.rule(seven, 1, "R/P/M");
        d.due("13 R of one alone", seven.worth(1, 0, 0), 0);
        d.due("13 P of one alone", seven.worth(1, 0, 1), 0);
        d.due("13 M of seven", seven.worth(1, 0, 2), 6);
    }

    private static void worthOfOtherFigures() {
        ThrownMarks x = Due.cards(1, "1", "1", "1");
        Due.rule(x, 0, "W257");
        d.due("13 W257", x.worth(0, 0, 0), 14);
        x.panel(5, 1);
        for (int j = 0; j < 5; j++) {
            x.card(j, 2);
        }
        d.due("13 what is lacking is 0", x.worth(0, 0, 0), 28);
        x.panel(2, 1);
        x.card(0, 1);
        x.card(1, 3);
        d.due("13 what is too much does not count", x.worth(0, 0, 0), 17);
    }

    private static void place() {
        ThrownMarks x = Due.cards(4, "5535");
        d.due("14 three alike", x.place(0, 0), 1);
        d.due("14 three alike 1", x.place(0, 1), 1);
        d.due("14 three alike 3", x.place(0, 3), 1);
        d.due("14 behind three", x.place(0, 2), 4);
        ThrownMarks y = Due.cards(3, "521", "122", "324");
        Due.rule(y, 1, "M/S0");
        d.due("14 M", y.worth(1, 1, 0), y.worth(1, 2, 0));
        d.due("14 the first part decides", y.place(1, 0), 1);
        d.due("14 the second part decides", y.place(1, 2), 2);
        d.due("14 it is behind", y.place(1, 1), 3);
        ThrownMarks z = Due.cards(2, "53", "35");
        Due.rule(z, 2, "R/P/W01");
        d.due("14 a third part", z.place(2, 1), 1);
        d.due("14 behind by a third part", z.place(2, 0), 2);
        Due.rule(z, 2, "R/P");
        d.due("14 alike by two parts", z.place(2, 0), 1);
        y.lose(2, true);
        d.due("14 what is lost does not count", y.place(0, 1), 2);
        d.refused("14 no rule", -1, w -> w.place(3, 0));
        d.refused("14 no rule -1", -1, w -> w.place(-1, 0));
        d.refused("14 no skater", -1, w -> w.place(0, 3));
        d.refused("14 no skater -1", -1, w -> w.place(0, -1));
    }

    private static void order() {
        ThrownMarks x = Due.cards(4, "1434");
        d.due("15 order 0", x.order(2, 0), 1);
        d.due("15 order 1", x.order(2, 1), 3);
        d.due("15 order 2", x.order(2, 2), 2);
        d.due("15 order 3", x.order(2, 3), 0);
        d.due("15 order 4", x.order(2, 4), -9);
        d.due("15 order -1", x.order(2, -1), -9);
        d.due("15 order MAX", x.order(2, Integer.MAX_VALUE), -9);
        d.due("15 order MIN", x.order(2, Integer.MIN_VALUE), -9);
        ThrownMarks y = Due.cards(3, "222");
        for (int i = 0; i < 3; i++) {
            d.due("15 all alike " + i, y.order(0, i), i);
        }
        d.due("15 no fourth", y.order(0, 3), -9);
        d.refused("15 no rule", -1, z -> z.order(3, 0));
        d.refused("15 no rule, no such", -1, z -> z.order(-1, -1));
    }

    private static void first() {
        ThrownMarks x = Due.cards(4, "1434");
        d.due("16 two", x.first(0), 10);
        x.mark(0, 3, 5);
        d.due("16 one", x.first(0), 8);
        x.lose(0, true);
        d.due("16 all", x.first(0), 15);
        Due.rule(x, 1, "M");
        x.lose(0, false);
        x.mark(0, 0, 5);
        d.due("16 by another rule", x.first(1), 9);
        d.refused("16 no rule", -1, z -> z.first(3));
        d.refused("16 no rule -1", -1, z -> z.first(-1));
    }

    private static void apart() {
        ThrownMarks x = Due.cards(3, "510", "010", "010");
        Due.rule(x, 1, "M");
        d.due("17 behind for ahead, alike for ahead", x.apart(0, 1), 2);
        d.due("17 the other way", x.apart(1, 0), 2);
        d.due("17 two alike", x.apart(0, 2), 0);
        d.due("17 with itself", x.apart(1, 1), 0);
        Due.rule(x, 2, "W900");
        d.due("17 W900 as S0", x.apart(0, 2), 0);
        ThrownMarks y = Due.cards(4, "0123", "5200");
        Due.rule(y, 0, "W10");
        Due.rule(y, 1, "W01");
        d.due("17 five behind, one alike", y.apart(0, 1), 6);
        d.refused("17 no rule", -1, z -> z.apart(3, 0));
        d.refused("17 no other", -1, z -> z.apart(0, 3));
        d.refused("17 no rule -1", -1, z -> z.apart(-1, 0));
        d.refused("17 no other -1", -1, z -> z.apart(0, -1));
    }
}
