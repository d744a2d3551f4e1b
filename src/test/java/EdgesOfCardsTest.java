/** The boundary cases of sections 1 and 6 that are of the card, and of promises 1 to 7 and 39. */
public final class EdgesOfCardsTest {
    private static final Due d = new Due("edges of cards");

    public static void main(String[] args) {
        newObject();
        everyPanel();
        panelIsAsAtFirst();
        panelKeepsRest();
        everyLand();
        everyMark();
        everyCard();
        everyLost();
        counts();
        lastCall();
        d.end();
    }

    private static void newObject() {
        ThrownMarks x = new ThrownMarks();
        d.due("1 five judges, the last", x.at(4, 0), 0);
        d.due("1 five judges, the first beyond", x.at(5, 0), -1);
        d.due("1 three skaters, the last", x.at(0, 2), 0);
        d.due("1 three skaters, the first beyond", x.at(0, 3), -1);
        for (int j = 0; j < 5; j++) {
            for (int s = 0; s < 3; s++) {
                d.due("1 no marks above 0", x.at(j, s), 0);
            }
        }
        d.due("1 the empty text", x.fault(), 0);
        d.due("1 no past cards", x.leaner(), -9);
        d.due("1 no past card to be had", x.again(0), -1);
        d.due("1 all at place 1", x.first(2), 7);
        for (int r = 0; r < 3; r++) {
            x.mark(r, 0, 5);
            d.due("1 rules are S0, not S1", x.worth(r, 0, 0), 5 * (r + 1));
        }
    }

    private static void everyPanel() {
        for (int n = 1; n <= 7; n++) {
            for (int m = 1; m <= 4; m++) {
                ThrownMarks x = new ThrownMarks();
                String who = n + " judges, " + m + " skaters: ";
                d.due("2 " + who + "marks", x.panel(n, m), n * m);
                d.due("2 " + who + "judges", x.count(0), n);
                d.due("2 " + who + "skaters", x.count(1), m);
                d.due("2 " + who + "all count", x.count(2), n);
                d.due("2 " + who + "the last mark", x.mark(n - 1, m - 1, 5), 0);
                d.due("2 " + who + "it stands", x.at(n - 1, m - 1), 5);
                d.due("2 " + who + "no judge beyond", x.at(n, m - 1), -1);
                d.due("2 " + who + "no skater beyond", x.at(n - 1, m), -1);
                d.due("2 " + who + "all sets", x.bloc(0, (1 << n) - 1, 0), 1);
                d.due("2 " + who + "no set beyond", x.bloc(0, 1 << n, 0), -2);
                d.due("2 " + who + "a skater beyond has no place", x.place(0, m), -1);
            }
        }
        ThrownMarks x = new ThrownMarks();
        int[][] beyond = {{0, 3}, {8, 3}, {5, 0}, {5, 5}, {0, 0}, {8, 5}, {-1, -1}, {7, 5}, {8, 4}};
        for (int[] size : beyond) {
            d.due("2 panel(" + size[0] + ", " + size[1] + ")", x.panel(size[0], size[1]), -2);
        }
        d.due("2 still five", x.count(0), 5);
        d.due("2 still three", x.count(1), 3);
    }

    private static void panelIsAsAtFirst() {
        ThrownMarks x = new ThrownMarks();
        x.panel(7, 4);
        for (int time = 0; time < 2; time++) {
            for (int j = 0; j < 7; j++) {
                for (int s = 0; s < 4; s++) {
                    d.due("2 marks are as at first", x.mark(j, s, 5), 0);
                }
                d.due("2 lands of judges are as at first", x.land(false, j, 3), 0);
                d.due("2 nobody is lost, as at first", x.lose(j, true), 0);
            }
            for (int s = 0; s < 4; s++) {
                d.due("2 lands of skaters are as at first", x.land(true, s, 3), 0);
            }
            d.due("2 as many as there are", x.panel(7, 4), 28);
        }
    }

    private static void panelKeepsRest() {
        ThrownMarks x = Due.cards(2, "31", "13", "55");
        Due.rule(x, 1, "M/P/S3");
        x.keep();
        Due.text(x, "W12");
        x.panel(2, 3);
        d.due("2 rules stay", x.part(1, 2), 0);
        d.due("2 the past stays", x.count(4), 1);
        d.due("2 the text stays", x.count(3), 3);
        d.due("2 figures are by judges now", x.fault(), -9);
        d.due("2 the past card is as it was", x.again(0), 6);
        d.due("2 its last mark", x.at(2, 1), 5);
    }

    private static void everyLand() {
        ThrownMarks x = new ThrownMarks();
        x.panel(7, 4);
        for (int j = 0; j < 7; j++) {
            for (int land = 0; land < 4; land++) {
                d.due("3 judge " + j, x.land(false, j, land), land == 0 ? 0 : land - 1);
            }
            d.due("3 the first land beyond", x.land(false, j, 4), -2);
            d.due("3 the first below", x.land(false, j, -1), -2);
            d.due("3 what was refused is not told", x.land(false, j, j % 4), 3);
        }
        for (int s = 0; s < 4; s++) {
            for (int land = 3; land >= 0; land--) {
                d.due("3 skater " + s, x.land(true, s, land), land == 3 ? 0 : land + 1);
            }
            d.due("3 the first land beyond for a skater", x.land(true, s, 4), -2);
            d.due("3 it is of the least still", x.land(true, s, 3 - s), 0);
        }
        for (int j = 0; j < 7; j++) {
            d.due("3 each has its own", x.land(false, j, 0), j % 4);
        }
        for (int s = 0; s < 4; s++) {
            d.due("3 each skater too", x.land(true, s, 0), 3 - s);
        }
        d.due("3 a judge beyond", x.land(false, 7, 0), -1);
        d.due("3 a skater beyond, though there is such a judge", x.land(true, 4, 0), -1);
        x.panel(1, 4);
        d.due("3 a judge beyond, though there is such a skater", x.land(false, 1, 0), -1);
        d.due("3 that skater", x.land(true, 3, 2), 0);
    }

    private static void everyMark() {
        ThrownMarks x = new ThrownMarks();
        x.panel(7, 4);
        for (int j = 0; j < 7; j++) {
            for (int s = 0; s < 4; s++) {
                for (int v = 0; v <= 5; v++) {
                    d.due("4 mark " + v, x.mark(j, s, v), v == 0 ? 0 : v - 1);
                }
                d.due("4 the first beyond", x.mark(j, s, 6), -2);
                d.due("4 the first below", x.mark(j, s, -1), -2);
                d.due("4 it stands", x.mark(j, s, (4 * j + s) % 6), 5);
            }
        }
        for (int j = 0; j < 7; j++) {
            for (int s = 0; s < 4; s++) {
                d.due("7 each is its own", x.at(j, s), (4 * j + s) % 6);
            }
        }
        d.due("4 a judge beyond", x.mark(7, 0, 0), -1);
        d.due("4 a skater beyond is not the next judge", x.mark(0, 4, 0), -1);
        d.due("7 a skater beyond is not the next judge", x.at(0, 4), -1);
        d.due("7 a judge beyond", x.at(7, 0), -1);
    }

    private static void everyCard() {
        int greatest = 1;
        for (int m = 1; m <= 4; m++) {
            greatest *= 6;
            ThrownMarks x = new ThrownMarks();
            x.panel(7, m);
            d.due("5 the greatest of " + m, x.card(6, greatest - 1), 0);
            for (int s = 0; s < m; s++) {
                d.due("5 all are 5", x.at(6, s), 5);
            }
            d.due("5 the first beyond of " + m, x.card(6, greatest), -2);
            d.due("5 the first below", x.card(6, -1), -2);
            d.due("5 the least", x.card(6, 0), greatest - 1);
            int figure = greatest;
            for (int s = 0; s < m; s++) {
                figure /= 6;
                d.due("5 skater " + s + " of " + m, x.card(0, 4 * figure), s == 0 ? 0 : 4 * figure * 6);
                d.due("5 it has the figure", x.at(0, s), 4);
                d.due("5 another has none", x.at(0, s == 0 ? m - 1 : 0), m == 1 ? 4 : 0);
            }
        }
    }

    private static void everyLost() {
        ThrownMarks x = new ThrownMarks();
        x.panel(7, 4);
        for (int j = 0; j < 7; j++) {
            x.card(j, 1295);
        }
        for (int j = 0; j < 7; j++) {
            d.due("6 not at first", x.lose(j, true), 0);
            d.due("6 lost again", x.lose(j, true), 1);
            d.due("6 so many count", x.count(2), 6 - j);
            for (int s = 0; s < 4; s++) {
                d.due("6 all its marks are lost", x.worth(0, s, 0), 5 * (6 - j));
                d.due("7 lost ones too", x.at(j, s), 5);
            }
        }
        d.due("6 a judge beyond", x.lose(7, true), -1);
        d.due("6 a judge beyond, not lost", x.lose(7, false), -1);
        d.due("6 all are lost still", x.count(2), 0);
        for (int j = 6; j >= 0; j--) {
            d.due("6 was lost", x.lose(j, false), 1);
            d.due("6 so many count again", x.count(2), 7 - j);
        }
    }

    private static void counts() {
        ThrownMarks x = new ThrownMarks();
        x.panel(7, 4);
        for (int i = 1; i <= 8; i++) {
            x.keep();
            d.due("39 past cards", x.count(4), i);
        }
        for (int i = 1; i <= 16; i++) {
            x.write(1, 'M');
            d.due("39 bytes", x.count(3), i);
        }
        d.due("39 the most judges", x.count(0), 7);
        d.due("39 the most skaters", x.count(1), 4);
        d.due("39 the most that count", x.count(2), 7);
        d.due("39 the first beyond", x.count(5), -2);
        d.due("39 the first below", x.count(-1), -2);
        x.panel(1, 1);
        x.lose(0, true);
        x.wipe();
        x.forget();
        int[] least = {1, 1, 0, 0, 0};
        for (int what = 0; what < 5; what++) {
            d.due("39 the least of " + what, x.count(what), least[what]);
        }
    }

    /** The 512th call is one like the first. */
    private static void lastCall() {
        ThrownMarks x = new ThrownMarks();
        x.mark(0, 0, 1);
        for (int i = 2; i < 512; i++) {
            x.mark(0, 0, i % 6);
        }
        d.due("the 512th call", x.mark(0, 0, 0), 511 % 6);
        ThrownMarks y = Due.cards(3, "320", "125");
        for (int i = 0; i < 500; i++) {
            y.rests(i % 3, true);
        }
        d.due("after many dear ones", y.place(0, 2), 1);
    }
}
