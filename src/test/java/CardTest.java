/** Promises 1 to 7 and 39: a new object, the card, how many there are. */
public final class CardTest {
    private static final Due d = new Due("card");
    private static final int MIN = Integer.MIN_VALUE, MAX = Integer.MAX_VALUE;

    public static void main(String[] args) {
        newObject();
        panel();
        lands();
        marks();
        cards();
        lose();
        at();
        count();
        d.end();
    }

    private static void newObject() {
        d.due("UNKNOWN", ThrownMarks.UNKNOWN, -1);
        d.due("BAD", ThrownMarks.BAD, -2);
        d.due("LATE", ThrownMarks.LATE, -3);
        d.due("FULL", ThrownMarks.FULL, -4);
        d.due("NONE", ThrownMarks.NONE, -9);
        ThrownMarks x = new ThrownMarks();
        d.due("1 judges", x.count(0), 5);
        d.due("1 skaters", x.count(1), 3);
        d.due("1 counting", x.count(2), 5);
        d.due("1 text", x.count(3), 0);
        d.due("1 past", x.count(4), 0);
        for (int j = 0; j < 5; j++) {
            d.due("1 card " + j, x.card(j, 0), 0);
            d.due("1 lost " + j, x.lose(j, false), 0);
            d.due("1 land " + j, x.land(false, j, 0), 0);
        }
        for (int s = 0; s < 3; s++) {
            d.due("1 land of skater " + s, x.land(true, s, 0), 0);
        }
        x.card(0, Due.row("321"));
        for (int r = 0; r < 3; r++) {
            d.due("1 rule " + r + " is S", x.part(r, 0), 0);
            d.due("1 rule " + r + " is one part", x.part(r, 1), -9);
            d.due("1 rule " + r + " strikes none", x.worth(r, 0, 0), 3);
        }
        ThrownMarks y = new ThrownMarks();
        d.due("1 objects share nothing", y.at(0, 0), 0);
    }

    private static void panel() {
        ThrownMarks x = Due.some();
        d.due("2 panel", x.panel(7, 4), 28);
        for (int j = 0; j < 7; j++) {
            for (int s = 0; s < 4; s++) {
                d.due("2 mark", x.at(j, s), 0);
            }
            d.due("2 land", x.land(false, j, 3), 0);
            d.due("2 lost", x.lose(j, true), 0);
        }
        for (int s = 0; s < 4; s++) {
            d.due("2 land of skater", x.land(true, s, 2), 0);
        }
        x.card(6, 1295);
        d.due("2 the text stays", x.count(3), 7);
        d.due("2 rules stay", x.part(0, 1), 2);
        d.due("2 the past stays", x.count(4), 1);
        d.due("2 less", x.panel(1, 1), 1);
        d.due("2 judges", x.count(0), 1);
        d.due("2 skaters", x.count(1), 1);
        d.due("2 again more", x.panel(7, 4), 28);
        d.due("2 nothing is left of before", x.card(6, 0), 0);
        d.due("2 nor a land", x.land(false, 6, 0), 0);
        d.due("2 nor of skaters", x.land(true, 3, 0), 0);
        d.due("2 nor what was lost", x.count(2), 7);
        d.refused("2 panel(0, 1)", -2, y -> y.panel(0, 1));
        d.refused("2 panel(8, 1)", -2, y -> y.panel(8, 1));
        d.refused("2 panel(1, 0)", -2, y -> y.panel(1, 0));
        d.refused("2 panel(1, 5)", -2, y -> y.panel(1, 5));
        d.refused("2 panel(MIN, 2)", -2, y -> y.panel(MIN, 2));
        d.refused("2 panel(2, MAX)", -2, y -> y.panel(2, MAX));
    }

    private static void lands() {
        ThrownMarks x = new ThrownMarks();
        d.due("3 judge", x.land(false, 2, 3), 0);
        d.due("3 skater of that number", x.land(true, 2, 1), 0);
        d.due("3 judge again", x.land(false, 2, 0), 3);
        d.due("3 skater again", x.land(true, 2, 2), 1);
        d.due("3 last judge", x.land(false, 4, 1), 0);
        d.refused("3 no judge", -1, y -> y.land(false, 4, 0));
        d.refused("3 no judge -1", -1, y -> y.land(false, -1, 0));
        d.refused("3 no skater", -1, y -> y.land(true, 3, 0));
        d.refused("3 no skater -1", -1, y -> y.land(true, -1, 0));
        d.refused("3 no skater MAX", -1, y -> y.land(true, MAX, 0));
        d.refused("3 bad land", -2, y -> y.land(true, 2, 4));
        d.refused("3 bad land -1", -2, y -> y.land(false, 0, -1));
        d.refused("3 first unknown", -1, y -> y.land(false, 4, 4));
        d.refused("3 first unknown skater", -1, y -> y.land(true, 3, -1));
    }

    private static void marks() {
        ThrownMarks x = new ThrownMarks();
        d.due("4 mark", x.mark(4, 2, 5), 0);
        d.due("4 was", x.mark(4, 2, 1), 5);
        d.due("4 is", x.at(4, 2), 1);
        d.due("4 others are not", x.at(4, 1) + x.at(3, 2), 0);
        x.lose(4, true);
        d.due("4 of a lost one", x.mark(4, 2, 2), 1);
        d.refused("4 no judge", -1, y -> y.mark(4, 0, 1));
        d.refused("4 no judge MIN", -1, y -> y.mark(MIN, 0, 1));
        d.refused("4 no skater", -1, y -> y.mark(0, 3, 1));
        d.refused("4 no skater -1", -1, y -> y.mark(0, -1, 1));
        d.refused("4 bad", -2, y -> y.mark(0, 0, 6));
        d.refused("4 bad -1", -2, y -> y.mark(0, 0, -1));
        d.refused("4 first unknown", -1, y -> y.mark(0, 3, 6));
    }

    private static void cards() {
        ThrownMarks x = new ThrownMarks();
        d.due("5 card", x.card(1, Due.row("345")), 0);
        d.due("5 skater 0 is the highest", x.at(1, 0), 3);
        d.due("5 skater 1", x.at(1, 1), 4);
        d.due("5 skater 2 is the lowest", x.at(1, 2), 5);
        x.mark(1, 0, 0);
        d.due("5 was", x.card(1, 215), Due.row("45"));
        d.due("5 the greatest", x.card(1, 0), 215);
        d.due("5 other judges have none", x.card(0, 0) + x.card(2, 0), 0);
        x.panel(1, 4);
        d.due("5 of four", x.card(0, 1295), 0);
        d.due("5 of four too much", x.card(0, 1296), -2);
        d.due("5 of four again", x.card(0, 7), 1295);
        x.panel(1, 1);
        d.due("5 of one", x.card(0, 5), 0);
        d.due("5 of one too much", x.card(0, 6), -2);
        d.refused("5 no judge", -1, y -> y.card(4, 0));
        d.refused("5 no judge -1", -1, y -> y.card(-1, 0));
        d.refused("5 bad", -2, y -> y.card(0, 216));
        d.refused("5 bad -1", -2, y -> y.card(0, -1));
        d.refused("5 bad MAX", -2, y -> y.card(3, MAX));
        d.refused("5 first unknown", -1, y -> y.card(4, 216));
    }

    private static void lose() {
        ThrownMarks x = new ThrownMarks();
        x.card(3, Due.row("222"));
        d.due("6 lost", x.lose(3, true), 0);
        d.due("6 lost twice", x.lose(3, true), 1);
        d.due("6 does not count", x.count(2), 4);
        d.due("6 its marks do not", x.worth(0, 0, 0), 0);
        d.due("6 found", x.lose(3, false), 1);
        d.due("6 found twice", x.lose(3, false), 0);
        d.due("6 counts", x.count(2), 5);
        d.due("6 its marks do", x.worth(0, 0, 0), 2);
        d.refused("6 no judge", -1, y -> y.lose(4, true));
        d.refused("6 no judge -1", -1, y -> y.lose(-1, true));
        d.refused("6 no judge 32", -1, y -> y.lose(32, true));
    }

    private static void at() {
        ThrownMarks x = Due.some();
        d.due("7 at", x.at(0, 0), 5);
        d.due("7 at another", x.at(2, 2), 4);
        d.due("7 lost ones too", x.at(3, 2), 5);
        d.refused("7 no judge", -1, y -> y.at(4, 0));
        d.refused("7 no judge -1", -1, y -> y.at(-1, 0));
        d.refused("7 no skater", -1, y -> y.at(0, 3));
        d.refused("7 no skater MIN", -1, y -> y.at(0, MIN));
    }

    private static void count() {
        ThrownMarks x = Due.some();
        d.due("39 judges", x.count(0), 4);
        d.due("39 skaters", x.count(1), 3);
        d.due("39 that count", x.count(2), 3);
        d.due("39 bytes", x.count(3), 7);
        d.due("39 past", x.count(4), 1);
        d.refused("39 bad", -2, y -> y.count(5));
        d.refused("39 bad -1", -2, y -> y.count(-1));
        d.refused("39 bad MAX", -2, y -> y.count(MAX));
    }
}
