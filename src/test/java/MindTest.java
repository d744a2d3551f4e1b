/** Promises 36 to 38: all judges who lean or do not. */
public final class MindTest {
    private static final Due d = new Due("minds");

    public static void main(String[] args) {
        minded();
        rest();
        rests();
        d.end();
    }

    /** Judge 0 and skater 1 of land 1, all others of land 0; skater 0 is 9 to 6. */
    private static ThrownMarks three() {
        ThrownMarks x = Due.cards(2, "32", "32", "32");
        x.land(false, 0, 1);
        x.land(true, 1, 1);
        return x;
    }

    private static void minded() {
        ThrownMarks x = three();
        d.due("36 nobody", x.minded(0, 0, 1), 2);
        d.due("36 judge 0", x.minded(0, 1, 1), 1);
        d.due("36 judge 0, skater 0", x.minded(0, 1, 0), 2);
        d.due("36 judges 0 and 1", x.minded(0, 3, 1), 2);
        d.due("36 nothing is changed", x.at(0, 1), 2);
        x.lose(0, true);
        d.due("36 what is lost stays so", x.minded(0, 1, 1), 2);
        x.lose(0, false);
        x.land(false, 0, 3);
        x.card(1, 0);
        x.card(2, Due.row("12"));
        d.due("36 judge 0 as it is", x.minded(0, 0, 0), 1);
        d.due("36 to a land without skaters 0 each", x.minded(0, 1, 0), 2);
        d.refused("36 no rule", -1, z -> z.minded(3, 0, 0));
        d.refused("36 no rule -1", -1, z -> z.minded(-1, 0, 0));
        d.refused("36 no skater", -1, z -> z.minded(0, 0, 3));
        d.refused("36 no skater -1", -1, z -> z.minded(0, 0, -1));
        d.refused("36 bad", -2, z -> z.minded(0, 16, 0));
        d.refused("36 bad -1", -2, z -> z.minded(0, -1, 0));
        d.refused("36 bad MIN", -2, z -> z.minded(0, Integer.MIN_VALUE, 0));
        d.refused("36 first unknown", -1, z -> z.minded(0, 16, 3));
        d.refused("36 asks alone", 2, z -> z.minded(1, 15, 1));
    }

    private static void rest() {
        ThrownMarks x = three();
        int[] due = {0, 0, 1, 1, 1, 1, 1, 1};
        for (int set = 0; set < 8; set++) {
            d.due("37 set " + set, x.rest(0, set), due[set]);
        }
        x.lose(0, true);
        d.due("37 who is lost changes none", x.rest(0, 0), 1);
        d.due("37 nor back", x.rest(0, 1), 1);
        x.lose(0, false);
        x.land(false, 0, 3);
        d.due("37 who has no skaters changes none", x.rest(0, 0), 1);
        d.due("37 nor does the land that is first", x.rest(0, 1), 1);
        d.refused("37 no rule", -1, z -> z.rest(3, 0));
        d.refused("37 no rule -1", -1, z -> z.rest(-1, 0));
        d.refused("37 bad", -2, z -> z.rest(0, 16));
        d.refused("37 bad -1", -2, z -> z.rest(0, -1));
        d.refused("37 bad MAX", -2, z -> z.rest(0, Integer.MAX_VALUE));
        d.refused("37 first unknown", -1, z -> z.rest(3, 16));
        leastOfLand();
    }

    /** A judge looks at the first of its land alone. */
    private static void leastOfLand() {
        ThrownMarks x = Due.cards(3, "320", "015");
        x.land(true, 2, 1);
        x.land(false, 1, 1);
        d.due("37 skater 2 is first", x.place(0, 2), 1);
        d.due("37 judge 0 would", x.rest(0, 0), 0);
        d.due("37 both lean", x.rest(0, 3), 1);
        d.due("37 judge 0 alone: judge 1 would too", x.rest(0, 1), 0);
        d.due("37 judge 1 alone: judge 0 would too", x.rest(0, 2), 0);
        unlean();
        ThrownMarks y = Due.cards(3, "502");
        y.land(true, 2, 1);
        d.due("37 skater 1 of its land is third", y.place(0, 1), 3);
        d.due("37 and would be first", y.minded(0, 1, 1), 1);
        d.due("37 but its least place is 1 as it is", y.rest(0, 0), 1);
        d.due("37 and stays so", y.rest(0, 1), 1);
    }

    /** By ranks a judge that gives both skaters of its land as much may do worse than by its marks. */
    private static void unlean() {
        ThrownMarks x = Due.cards(3, "540", "035", "000", "505");
        Due.rule(x, 0, "R");
        x.land(true, 2, 1);
        for (int judge = 1; judge < 4; judge++) {
            x.land(false, judge, 3);
        }
        d.due("37 skater 0 by marks", x.worth(0, 0, 0), 4 + 0 + 2 + 3);
        d.due("37 skater 1 by marks", x.worth(0, 1, 0), 2 + 2 + 2 + 0);
        d.due("37 skater 2 by marks", x.worth(0, 2, 0), 0 + 4 + 2 + 3);
        d.due("37 first with 2", x.place(0, 0), 1);
        d.due("37 second, if judge 0 leans", x.minded(0, 1, 0), 2);
        d.due("37 so it would not", x.rest(0, 0), 1);
        d.due("37 and would change back", x.rest(0, 1), 0);
        d.due("37 it does so whatever judge 2 does", x.rest(0, 4 + 1), 0);
        d.due("38 the least", x.rests(0, true), 0);
    }

    private static void rests() {
        ThrownMarks x = three();
        d.due("38 how many", x.rests(0, false), 6);
        d.due("38 the least", x.rests(0, true), 2);
        x.lose(0, true);
        d.due("38 with one lost", x.rests(0, false), 8);
        d.due("38 the least is nobody", x.rests(0, true), 0);
        Due.rule(x, 1, "M");
        x.lose(0, false);
        d.due("38 by a middle all are", x.rests(1, false), 8);
        ThrownMarks one = Due.cards(1, "0");
        d.due("38 one judge, one skater", one.rests(0, false), 2);
        ThrownMarks seven = new ThrownMarks();
        seven.panel(7, 4);
        d.due("38 of seven", seven.rests(0, false), 128);
        d.refused("38 no rule", -1, z -> z.rests(3, true));
        d.refused("38 no rule -1", -1, z -> z.rests(-1, false));
        d.refused("38 asks alone", 7, z -> z.rests(2, true));
    }
}
