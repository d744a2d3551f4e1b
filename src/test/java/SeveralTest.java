/** Promises 24 to 29: blocs, the fewest, judges drawn, one left out, thirds. */
public final class SeveralTest {
    private static final Due d = new Due("several");

    public static void main(String[] args) {
        bloc();
        few();
        drawn();
        leftOut();
        turns();
        thirds();
        d.end();
    }

    private static void bloc() {
        ThrownMarks x = Due.cards(3, "503", "503", "503");
        d.due("24 nobody", x.bloc(0, 0, 1), 3);
        d.due("24 one", x.bloc(0, 1, 1), 3);
        d.due("24 two", x.bloc(0, 3, 1), 1);
        d.due("24 one for another", x.bloc(0, 4, 2), 1);
        d.due("24 all", x.bloc(0, 7, 1), 1);
        d.due("24 nothing is changed", x.card(0, Due.row("503")), Due.row("503"));
        ThrownMarks y = Due.cards(3, "555", "204", "204");
        y.lose(0, true);
        d.due("24 what is lost counts then", y.bloc(0, 1, 1), 2);
        d.due("24 and else does not", y.bloc(0, 0, 1), 3);
        d.due("24 what is lost of others stays so", y.bloc(0, 2, 0), 1);
        Due.rule(y, 1, "M");
        d.due("24 by another rule", y.bloc(1, 6, 1), 1);
        d.refused("24 no rule", -1, z -> z.bloc(3, 0, 0));
        d.refused("24 no rule -1", -1, z -> z.bloc(-1, 0, 0));
        d.refused("24 no skater", -1, z -> z.bloc(0, 0, 3));
        d.refused("24 no skater -1", -1, z -> z.bloc(0, 0, -1));
        d.refused("24 bad set", -2, z -> z.bloc(0, 16, 0));
        d.refused("24 bad set -1", -2, z -> z.bloc(0, -1, 0));
        d.refused("24 bad set MIN", -2, z -> z.bloc(0, Integer.MIN_VALUE, 0));
        d.refused("24 first unknown", -1, z -> z.bloc(0, 16, 3));
        d.refused("24 asks alone", 1, z -> z.bloc(0, 15, 0));
    }

    private static void few() {
        ThrownMarks x = Due.cards(3, "503", "503", "503");
        d.due("25 two, the least as bits", x.few(0, 1, 1), 3);
        d.due("25 to place 2", x.few(0, 1, 2), 3);
        d.due("25 to place 3", x.few(0, 1, 3), 0);
        d.due("25 to place 4", x.few(0, 1, 4), 0);
        d.due("25 already", x.few(0, 0, 1), 0);
        d.due("25 one", x.few(0, 2, 1), 1);
        Due.rule(x, 1, "W119");
        d.due("25 fewer before lesser bits", x.few(1, 1, 1), 4);
        Due.rule(x, 1, "W199");
        d.due("25 of as many the least bits", x.few(1, 2, 1), 2);
        Due.rule(x, 1, "W000/S0");
        d.due("25 the second part", x.few(1, 1, 1), 3);
        ThrownMarks seven = Due.cards(2, "50", "50", "50", "50", "50", "50", "50");
        Due.rule(seven, 0, "M");
        d.due("25 four of seven", seven.few(0, 1, 1), 15);
        d.due("25 place 2 of two", seven.few(0, 1, 2), 0);
        seven.lose(0, true);
        seven.lose(1, true);
        seven.lose(2, true);
        d.due("25 of four that count two and a half", seven.few(0, 1, 1), 24);
        Due.rule(seven, 1, "W9000000/M");
        d.due("25 one of the lost ones", seven.few(1, 1, 1), 1);
        ThrownMarks all = Due.cards(2, "50", "50", "50", "50", "50", "50", "50");
        Due.rule(all, 0, "W1111119");
        d.due("25 one is all", all.few(0, 1, 1), 64);
        Due.rule(all, 0, "P/W0000001");
        d.due("25 four by pairs", all.few(0, 1, 1), 15);
        d.refused("25 no rule", -1, z -> z.few(3, 0, 1));
        d.refused("25 no skater", -1, z -> z.few(0, 3, 1));
        d.refused("25 no skater -1", -1, z -> z.few(0, -1, 1));
        d.refused("25 bad 0", -2, z -> z.few(0, 0, 0));
        d.refused("25 bad 5", -2, z -> z.few(0, 0, 5));
        d.refused("25 first unknown", -1, z -> z.few(-1, 0, 0));
        d.refused("25 place 4 of three", 0, z -> z.few(0, 0, 4));
    }

    private static void drawn() {
        ThrownMarks x = Due.cards(2, "50", "01", "05");
        d.due("26 one", x.drawn(0, 0, 1), 1);
        d.due("26 one for the other", x.drawn(0, 1, 1), 2);
        d.due("26 two", x.drawn(0, 0, 2), 1);
        d.due("26 two, alike is not alone", x.drawn(0, 1, 2), 1);
        d.due("26 three", x.drawn(0, 0, 3), 0);
        d.due("26 three for the other", x.drawn(0, 1, 3), 1);
        d.due("26 four", x.drawn(0, 0, 4), -2);
        x.lose(0, true);
        d.due("26 what is lost is not drawn", x.drawn(0, 0, 1), 0);
        d.due("26 of two", x.drawn(0, 1, 1), 2);
        d.due("26 both", x.drawn(0, 1, 2), 1);
        d.due("26 there are no three", x.drawn(0, 1, 3), 0);
        d.due("26 nothing is changed", x.count(2), 2);
        Due.rule(x, 1, "W987");
        d.due("26 figures go by judge", x.drawn(1, 1, 1), 2);
        ThrownMarks seven = Due.cards(1, "0", "0", "0", "0", "0", "0", "0");
        d.due("26 one skater is alone", seven.drawn(0, 0, 3), 35);
        d.due("26 seven of seven", seven.drawn(0, 0, 7), 1);
        d.refused("26 no rule", -1, z -> z.drawn(3, 0, 1));
        d.refused("26 no rule -1", -1, z -> z.drawn(-1, 0, 1));
        d.refused("26 no skater", -1, z -> z.drawn(0, 3, 1));
        d.refused("26 no skater -1", -1, z -> z.drawn(0, -1, 1));
        d.refused("26 bad 0", -2, z -> z.drawn(0, 0, 0));
        d.refused("26 bad 5", -2, z -> z.drawn(0, 0, 5));
        d.refused("26 bad -1", -2, z -> z.drawn(0, 0, -1));
        d.refused("26 first unknown", -1, z -> z.drawn(0, 3, 0));
        d.refused("26 more than count", 0, z -> z.drawn(0, 0, 4));
    }

    private static void leftOut() {
        ThrownMarks x = Due.cards(2, "50", "01", "05");
        d.due("27 another one alone, both alike", x.leftOut(0), 2);
        x.lose(2, true);
        d.due("27 of those that count", x.leftOut(0), 1);
        x.lose(0, true);
        x.lose(1, true);
        d.due("27 none counts", x.leftOut(0), 0);
        ThrownMarks y = Due.cards(3, "500", "111");
        d.due("27 all alike without 0", y.leftOut(0), 1);
        Due.rule(y, 1, "S1");
        d.due("27 all is struck", y.leftOut(1), 0);
        ThrownMarks one = Due.cards(2, "50");
        d.due("27 the only one", one.leftOut(0), 1);
        d.refused("27 no rule", -1, z -> z.leftOut(3));
        d.refused("27 no rule -1", -1, z -> z.leftOut(-1));
    }

    private static void turns() {
        ThrownMarks x = Due.cards(3, "301", "035");
        Due.rule(x, 1, "R");
        d.due("28 R of 0", x.worth(1, 0, 0), 4);
        d.due("28 R of 1", x.worth(1, 1, 0), 2);
        d.due("28 turned to be alike", x.turns(1, 0, 1, 2), 1);
        d.due("28 the other two", x.turns(1, 2, 0, 1), 1);
        d.due("28 not turned", x.turns(1, 2, 1, 0), 0);
        d.due("28 behind", x.turns(1, 1, 0, 2), -3);
        d.due("28 sums are not turned", x.turns(0, 2, 1, 0), 0);
        d.due("28 alike is not ahead", x.turns(0, 0, 1, 2), -3);
        d.due("28 nothing is changed", x.at(0, 2), 1);
        x.lose(0, true);
        d.due("28 one that is lost turns none", x.turns(1, 1, 0, 2), 0);
        d.refused("28 no rule", -1, z -> z.turns(3, 0, 1, 2));
        d.refused("28 no a", -1, z -> z.turns(0, 3, 1, 2));
        d.refused("28 no b", -1, z -> z.turns(0, 0, 3, 2));
        d.refused("28 no third", -1, z -> z.turns(0, 0, 1, 3));
        d.refused("28 no third -1", -1, z -> z.turns(0, 0, 1, -1));
        d.refused("28 a is b", -2, z -> z.turns(2, 0, 0, 1));
        d.refused("28 a is third", -2, z -> z.turns(2, 0, 1, 0));
        d.refused("28 b is third", -2, z -> z.turns(2, 0, 1, 1));
        d.refused("28 late", -3, z -> z.turns(2, 0, 2, 1));
        d.refused("28 first unknown", -1, z -> z.turns(2, 0, 0, 3));
        d.refused("28 bad before late", -2, z -> z.turns(2, 0, 2, 2));
        d.refused("28 asks alone", 0, z -> z.turns(2, 2, 0, 1));
    }

    private static void thirds() {
        ThrownMarks x = Due.cards(3, "301", "035");
        Due.rule(x, 1, "R");
        d.due("29 two ways", x.thirds(1), 2);
        d.due("29 sums", x.thirds(0), 0);
        x.lose(0, true);
        d.due("29 none", x.thirds(1), 0);
        ThrownMarks two = Due.cards(2, "30");
        Due.rule(two, 0, "R");
        d.due("29 of two skaters", two.thirds(0), 0);
        d.refused("29 no rule", -1, z -> z.thirds(3));
        d.refused("29 no rule -1", -1, z -> z.thirds(-1));
        ThrownMarks some = Due.cards(4, "3142", "2413", "0255");
        Due.rule(some, 0, "R");
        int ways = 0;
        for (int i = 0; i < 64; i++) {
            ways += some.turns(0, i / 16, i / 4 % 4, i % 4) == 1 ? 1 : 0;
        }
        d.due("29 as many as turns tells", some.thirds(0), ways);
    }
}
