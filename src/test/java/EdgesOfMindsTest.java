/** The boundary cases of section 5, and of promises 36 to 38. */
public final class EdgesOfMindsTest {
    private static final Due d = new Due("edges of minds");

    public static void main(String[] args) {
        leastPanel();
        oneJudge();
        landsWithoutSkaters();
        lostOnes();
        sevenJudges();
        lessAlone();
        noneAtRest();
        whoLooksAtWhom();
        d.end();
    }

    private static void leastPanel() {
        ThrownMarks x = Due.cards(1, "3");
        for (int time = 0; time < 2; time++) {
            for (int set = 0; set < 2; set++) {
                d.due("36 one skater", x.minded(0, set, 0), 1);
                d.due("37 one skater", x.rest(0, set), 1);
            }
            d.due("36 the first set beyond", x.minded(0, 2, 0), -2);
            d.due("36 the first below", x.minded(0, -1, 0), -2);
            d.due("36 the first skater beyond is told first", x.minded(0, 2, 1), -1);
            d.due("37 the first set beyond", x.rest(0, 2), -2);
            d.due("37 the first below", x.rest(0, -1), -2);
            d.due("37 a rule beyond is told first", x.rest(3, 2), -1);
            d.due("38 both", x.rests(0, false), 2);
            d.due("38 the least", x.rests(0, true), 0);
            d.due("38 a rule beyond", x.rests(3, false), -1);
            d.due("38 a rule below", x.rests(-1, true), -1);
            x.lose(0, true);
        }
    }

    private static void oneJudge() {
        ThrownMarks x = Due.cards(2, "45");
        x.land(true, 1, 2);
        d.due("36 as it is", x.minded(0, 0, 0), 2);
        d.due("36 leaning", x.minded(0, 1, 0), 1);
        d.due("36 the other one", x.minded(0, 1, 1), 2);
        d.due("37 it would", x.rest(0, 0), 0);
        d.due("37 it would not back", x.rest(0, 1), 1);
        d.due("38 one", x.rests(0, false), 1);
        d.due("38 the greatest is the least", x.rests(0, true), 1);
        x.land(true, 1, 0);
        d.due("36 both of its land have 5", x.minded(0, 1, 1), 1);
        d.due("36 both", x.minded(0, 1, 0), 1);
        d.due("37 the least place of both is 1 as it is", x.rest(0, 0), 1);
    }

    private static void landsWithoutSkaters() {
        ThrownMarks x = Due.cards(2, "45", "00");
        x.land(false, 0, 3);
        d.due("36 it gives 0 to all", x.minded(0, 1, 0), 1);
        d.due("36 as it is", x.minded(0, 0, 0), 2);
        d.due("37 a land without skaters would never", x.rest(0, 0), 1);
        d.due("37 nor back", x.rest(0, 1), 1);
        d.due("38 all four", x.rests(0, false), 4);
        d.due("38 the least", x.rests(0, true), 0);
        x.land(true, 0, 3);
        d.due("37 its land has a skater", x.rest(0, 0), 0);
        d.due("37 then it leans, and the other one would", x.rest(0, 1), 0);
        d.due("37 both lean", x.rest(0, 3), 1);
    }

    private static void lostOnes() {
        ThrownMarks x = Due.cards(2, "45", "55");
        x.land(true, 1, 1);
        x.lose(0, true);
        d.due("36 what is lost stays so, leaning", x.minded(0, 1, 0), 1);
        d.due("36 and does not take from the other", x.minded(0, 1, 1), 1);
        d.due("37 it counts not and would not", x.rest(0, 0), 1);
        x.card(1, Due.row("45"));
        d.due("37 the one that counts would", x.rest(0, 0), 0);
        d.due("37 whether the lost one leans or not", x.rest(0, 1), 0);
        d.due("38 two", x.rests(0, false), 2);
        d.due("38 the least", x.rests(0, true), 2);
        x.lose(1, true);
        d.due("38 all are lost: all four", x.rests(0, false), 4);
        d.due("38 the least is nobody", x.rests(0, true), 0);
        d.due("36 all are at place 1", x.minded(0, 3, 1), 1);
    }

    private static void sevenJudges() {
        ThrownMarks x = new ThrownMarks();
        x.panel(7, 4);
        d.due("38 all 128", x.rests(0, false), 128);
        d.due("38 the least of them", x.rests(0, true), 0);
        d.due("37 the last", x.rest(0, 127), 1);
        d.due("37 the first beyond", x.rest(0, 128), -2);
        d.due("36 the first beyond", x.minded(0, 128, 0), -2);
        x.card(6, Due.row("0005"));
        for (int s = 0; s < 3; s++) {
            x.land(true, s, 1);
        }
        x.land(false, 6, 1);
        Due.rule(x, 0, "W0000001");
        d.due("36 the last judge as it is", x.minded(0, 63, 3), 1);
        d.due("36 leaning", x.minded(0, 64, 3), 4);
        d.due("37 the last judge would, whoever leans", x.rest(0, 63), 0);
        d.due("38 half of them", x.rests(0, false), 64);
        d.due("38 the least is it alone", x.rests(0, true), 64);
    }

    /** As little a place is not less: neither would it lean, nor would it cease. */
    private static void lessAlone() {
        ThrownMarks x = Due.cards(2, "05", "05", "05", "05");
        x.land(false, 0, 0);
        for (int j = 1; j < 4; j++) {
            x.land(false, j, 1);
        }
        x.land(true, 1, 1);
        d.due("36 judge 0 is too weak", x.minded(0, 1, 0), 2);
        d.due("37 so it would not", x.rest(0, 0), 1);
        d.due("37 nor cease", x.rest(0, 1), 1);
        d.due("38 all", x.rests(0, false), 16);
        x.card(2, 0);
        x.card(3, 0);
        d.due("36 alike", x.minded(0, 1, 0), 1);
        d.due("37 alike is less than behind", x.rest(0, 0), 0);
        d.due("37 they both are at place 1", x.rest(0, 1), 1);
        d.due("38 whatever the others do, it must lean or they are too strong", x.rests(0, true), 1);
    }

    /** By R/W12 both can better the place of their land in turns, for ever. */
    private static void noneAtRest() {
        ThrownMarks x = Due.cards(3, "320", "125");
        x.land(false, 1, 1);
        x.land(true, 2, 1);
        Due.rule(x, 0, "R/W12");
        int[][] places = {{3, 2, 1}, {3, 1, 2}, {1, 3, 2}, {2, 2, 1}};
        for (int set = 0; set < 4; set++) {
            for (int s = 0; s < 3; s++) {
                d.due("36 mind " + set + ", skater " + s, x.minded(0, set, s), places[set][s]);
            }
            d.due("37 mind " + set, x.rest(0, set), 0);
        }
        d.due("38 none", x.rests(0, true), -9);
        d.due("38 how many", x.rests(0, false), 0);
        x.lose(1, true);
        d.due("38 some, if one is lost", x.rests(0, false) > 0 ? 1 : 0, 1);
    }

    /** The skater of its land that is best counts, whichever it is, and those of other lands do not. */
    private static void whoLooksAtWhom() {
        ThrownMarks x = Due.cards(4, "0540", "0050");
        x.land(false, 1, 1);
        x.land(true, 2, 1);
        x.land(true, 3, 2);
        d.due("36 skater 1 is second", x.minded(0, 0, 1), 2);
        d.due("37 judge 0 would, for skater 1", x.rest(0, 0), 0);
        d.due("37 leaning, skaters 0 and 1 are alike with 2", x.rest(0, 1), 1);
        d.due("36 skater 2 is alike with them", x.minded(0, 1, 2), 1);
        d.due("36 skater 3 has none", x.minded(0, 1, 3), 4);
        x.land(false, 0, 2);
        d.due("36 skater 3 would be first with 2", x.minded(0, 1, 3), 1);
        d.due("37 judge 0 would, for skater 3", x.rest(0, 0), 0);
        d.due("38 it leans", x.rests(0, true), 1);
    }
}
