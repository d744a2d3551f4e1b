/** Promises 30 to 35: cards that were kept, who leans, how seldom that is. */
public final class PastTest {
    private static final Due d = new Due("past");

    public static void main(String[] args) {
        keep();
        forget();
        lean();
        leanOfSeveral();
        seldom();
        seldomOfSeveral();
        leaner();
        again();
        d.end();
    }

    private static void keep() {
        ThrownMarks x = new ThrownMarks();
        for (int i = 1; i <= 8; i++) {
            x.mark(0, 0, i % 6);
            d.due("30 keep", x.keep(), i);
        }
        d.due("30 full", x.keep(), -4);
        d.due("30 eight", x.count(4), 8);
        x.forget();
        d.due("30 room again", x.keep(), 1);
        d.refused("30 full changes nothing", -4, y -> {
            for (int i = 0; i < 7; i++) {
                y.keep();
            }
            int answer = y.keep();
            d.due("30 eight still", y.count(4), 8);
            y.again(0);
            y.forget();
            y.keep();
            y.lose(3, true);
            return answer;
        });
    }

    private static void forget() {
        ThrownMarks x = Due.some();
        x.keep();
        d.due("31 forget", x.forget(), 2);
        d.due("31 forget again", x.forget(), 0);
        d.due("31 none", x.count(4), 0);
        d.due("31 the card stays", x.at(0, 0), 5);
        d.due("31 no lean", x.lean(0), 0);
        d.due("31 no card", x.again(0), -1);
    }

    /** Judge 0 and skater 0 of land 1, all others of land 0. */
    private static ThrownMarks leaning() {
        ThrownMarks x = Due.cards(2, "51", "23", "04");
        x.land(false, 0, 1);
        x.land(true, 0, 1);
        x.keep();
        return x;
    }

    private static void lean() {
        ThrownMarks x = leaning();
        d.due("32 of 0", x.lean(0), 5 * 2 - 2);
        d.due("32 of 1", x.lean(1), 3 * 2 - 5);
        d.due("32 of 2", x.lean(2), 4 * 2 - 4);
        for (int j = 3; j < 7; j++) {
            d.due("32 who does not stand there", x.lean(j), 0);
        }
        x.land(true, 0, 0);
        x.land(false, 0, 2);
        x.card(0, 0);
        x.lose(0, true);
        x.panel(1, 1);
        d.due("32 as all was then", x.lean(0), 8);
        d.due("32 who is no judge now", x.lean(2), 4);
        ThrownMarks y = Due.cards(2, "51", "23");
        y.keep();
        d.due("32 both skaters of its land", y.lean(0), 5 - 2 + 1 - 3);
        d.refused("32 no judge", -1, z -> z.lean(7));
        d.refused("32 no judge -1", -1, z -> z.lean(-1));
        d.refused("32 none that is now", 0, z -> z.lean(6));
    }

    private static void leanOfSeveral() {
        ThrownMarks x = leaning();
        x.lose(2, true);
        x.keep();
        d.due("32 lost ones do not count", x.lean(0), 8 + 5 - 2);
        d.due("32 of 1, two cards", x.lean(1), 1 + 3 - 1);
        d.due("32 lost itself", x.lean(2), 4);
        x.lose(1, true);
        x.keep();
        d.due("32 alone it leans to none", x.lean(0), 11);
    }

    private static void seldom() {
        ThrownMarks x = leaning();
        d.due("33 of 0", x.seldom(0), 1);
        d.due("33 of 1", x.seldom(1), 2);
        d.due("33 of 2", x.seldom(2), 1);
        d.due("33 stands nowhere", x.seldom(3), 0);
        ThrownMarks y = Due.cards(1, "3", "3", "3", "1");
        y.keep();
        d.due("33 as much counts too", y.seldom(0), 3);
        d.due("33 all", y.seldom(3), 4);
        y.lose(0, true);
        y.forget();
        y.keep();
        d.due("33 lost there", y.seldom(0), 0);
        d.due("33 without the lost one", y.seldom(1), 2);
        ThrownMarks z = Due.cards(1, "3", "1");
        z.land(true, 0, 2);
        z.keep();
        d.due("33 no skater of its land", z.seldom(1), 2);
        d.due("33 none is kept", new ThrownMarks().seldom(0), 0);
        d.refused("33 no judge", -1, w -> w.seldom(7));
        d.refused("33 no judge -1", -1, w -> w.seldom(-1));
        d.refused("33 none that is now", 0, w -> w.seldom(6));
    }

    private static void seldomOfSeveral() {
        ThrownMarks x = Due.cards(1, "1", "3", "2");
        x.keep();
        x.card(0, 5);
        x.card(1, 0);
        x.card(2, 1);
        x.lose(0, true);
        x.keep();
        // Judge 0 stands in the first card alone: there it leans by 2 - 5, the others by 5 and 0.
        d.due("33 lean of 0", x.lean(0), -3);
        d.due("33 in its own cards alone", x.seldom(0), 3);
        // Judge 1: 6 - 3 in the first, 0 - 1 in the second; judge 2: 4 - 4 and 1 - 0; judge 0 -3.
        d.due("33 lean of 1", x.lean(1), 2);
        d.due("33 most in both together", x.seldom(1), 1);
        d.due("33 judge 2 leans less", x.seldom(2), 2);
        ThrownMarks y = Due.cards(2, "50", "04");
        y.land(true, 1, 1);
        y.keep();
        y.land(false, 0, 1);
        y.card(0, Due.row("20"));
        y.keep();
        // Judge 0: skater 0 in the first (5 - 0), skater 1 in the second (0 - 4): 1; judge 1 so: -5 and 4.
        d.due("33 lean by lands of each card", y.lean(0), 1);
        d.due("33 of its land as that was in each", y.seldom(0), 1);
    }

    private static void leaner() {
        d.due("34 none", new ThrownMarks().leaner(), -9);
        ThrownMarks x = leaning();
        d.due("34 judge 0", x.leaner(), 0);
        x.card(0, 0);
        x.keep();
        x.keep();
        d.due("34 lean of 0", x.lean(0), 8 - 2 - 2);
        d.due("34 lean of 2", x.lean(2), 4 + 5 + 5);
        d.due("34 judge 2", x.leaner(), 2);
        ThrownMarks y = Due.cards(1, "1", "4", "4");
        y.keep();
        d.due("34 of two like ones the first", y.leaner(), 1);
        ThrownMarks z = Due.cards(1, "0", "5");
        z.land(false, 1, 1);
        z.keep();
        d.due("34 no lean is more than less than none", z.leaner(), 1);
        // As lean is asked of 0 .. 6, one who stands nowhere leans by 0, which is the greatest here.
        ThrownMarks w = Due.cards(2, "05", "50");
        w.land(false, 1, 1);
        w.land(true, 1, 1);
        w.keep();
        d.due("34 both lean away", w.lean(0) + w.lean(1), -10);
        d.due("34 one who stands nowhere", w.leaner(), 2);
        w.forget();
        d.due("34 forgotten", w.leaner(), -9);
    }

    private static void again() {
        ThrownMarks x = Due.some();
        x.keep();
        x.panel(7, 4);
        x.mark(6, 3, 5);
        x.keep();
        d.due("35 the second", x.again(1), 12);
        d.due("35 lost 3", x.lose(3, true), 1);
        d.due("35 marks", x.at(2, 2), 4);
        d.due("35 land", x.land(false, 2, 3), 3);
        d.due("35 land of skater", x.land(true, 2, 3), 3);
        d.due("35 judges", x.count(0), 4);
        d.due("35 skaters", x.count(1), 3);
        d.due("35 the past stays", x.count(4), 3);
        d.due("35 the text stays", x.count(3), 7);
        x.mark(2, 2, 0);
        d.due("35 once more", x.again(1), 12);
        d.due("35 what was kept does not change with the card", x.at(2, 2), 4);
        d.due("35 the first", x.again(0), 12);
        d.due("35 not lost then", x.lose(3, false), 0);
        d.due("35 the third", x.again(2), 28);
        d.due("35 marks of the third", x.at(6, 3), 5);
        d.due("35 no lands there", x.land(false, 2, 0), 0);
        d.refused("35 none", -1, y -> y.again(1));
        d.refused("35 none -1", -1, y -> y.again(-1));
        d.refused("35 none 8", -1, y -> y.again(8));
        d.refused("35 none MAX", -1, y -> y.again(Integer.MAX_VALUE));
        d.due("35 none of none", new ThrownMarks().again(0), -1);
    }
}
