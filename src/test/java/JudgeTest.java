/** Promises 18 to 23: what one judge could bring about. */
public final class JudgeTest {
    private static final Due d = new Due("one judge");

    public static void main(String[] args) {
        could();
        best();
        bends();
        bent();
        strike();
        move();
        d.end();
    }

    private static void could() {
        ThrownMarks x = Due.cards(3, "500", "500", "000");
        d.due("18 not before 0", x.could(0, 2, 1), 2);
        d.due("18 alike is no worse", x.could(0, 2, 0), 1);
        d.due("18 alike with 0", x.could(0, 0, 2), 1);
        x.lose(2, true);
        d.due("18 now", x.place(0, 1), 2);
        x.lose(1, true);
        d.due("18 what is lost counts then", x.could(0, 2, 1), 1);
        d.due("18 and is lost still", x.count(2), 1);
        d.due("18 its marks are as before", x.card(2, 0), 0);
        ThrownMarks y = Due.cards(4, "5505", "5505", "1110");
        d.due("18 behind three", y.could(0, 2, 2), 4);
        Due.rule(y, 1, "M");
        d.due("18 by a middle", y.could(1, 2, 2), 4);
        d.due("18 alone", Due.cards(1, "3").could(0, 0, 0), 1);
        Due.rule(x, 1, "R");
        d.due("18 by ranks", x.could(1, 2, 1), 1);
        Due.rule(x, 1, "P");
        d.due("18 by pairs", x.could(1, 2, 1), 1);
        d.refused("18 no rule", -1, z -> z.could(3, 0, 0));
        d.refused("18 no rule -1", -1, z -> z.could(-1, 0, 0));
        d.refused("18 no judge", -1, z -> z.could(0, 4, 0));
        d.refused("18 no judge -1", -1, z -> z.could(0, -1, 0));
        d.refused("18 no skater", -1, z -> z.could(0, 0, 3));
        d.refused("18 no skater -1", -1, z -> z.could(0, 0, -1));
        d.refused("18 asks alone", 1, z -> z.could(0, 3, 0));
    }

    private static void best() {
        ThrownMarks x = Due.cards(3, "503", "555");
        d.due("19 the least row", x.best(0, 1, 2), Due.row("002"));
        d.due("19 as much as can be", x.best(0, 1, 1), Due.row("050"));
        d.due("19 nothing is wanted", x.best(0, 1, 0), 0);
        Due.rule(x, 1, "S0/W01");
        d.due("19 the second part", x.best(1, 1, 2), Due.row("002"));
        Due.rule(x, 1, "S0/W10");
        d.due("19 the second part against", x.best(1, 1, 2), Due.row("003"));
        ThrownMarks two = Due.cards(3, "500", "500", "111");
        d.due("19 if place 1 can't be had", two.best(0, 2, 1), 0);
        d.due("19 place 2 wants more", Due.cards(3, "501", "501", "111").best(0, 2, 1), Due.row("020"));
        ThrownMarks y = Due.cards(4, "0005", "0050");
        Due.rule(y, 0, "R");
        d.due("19 ranks", y.best(0, 0, 3), Due.row("0001"));
        y.lose(0, true);
        d.due("19 what is lost", y.best(0, 0, 3), Due.row("0001"));
        ThrownMarks z2 = Due.cards(3, "000", "531");
        for (String rule : new String[] {"P", "R", "W00/P", "W00/R", "W00/W00/P", "W00/M/R", "S3/S2/R", "P/R", "R/P"}) {
            Due.rule(z2, 1, rule);
            d.due("19 contrary to the other by " + rule, z2.best(1, 0, 2), rule.contains("M") ? 5 : Due.row("012"));
            d.due("18 and so the first by " + rule, z2.could(1, 0, 2), 1);
        }
        ThrownMarks z3 = Due.cards(3, "000", "531", "531");
        for (String rule : new String[] {"P", "R", "W000/P", "W000/R"}) {
            Due.rule(z3, 1, rule);
            d.due("18 two are more by " + rule, z3.could(1, 0, 2), rule.endsWith("P") ? 3 : 2);
        }
        d.refused("19 no rule", -1, z -> z.best(3, 0, 0));
        d.refused("19 no judge", -1, z -> z.best(0, 4, 0));
        d.refused("19 no judge -1", -1, z -> z.best(0, -1, 0));
        d.refused("19 no skater", -1, z -> z.best(0, 0, 3));
        d.refused("19 no skater -1", -1, z -> z.best(0, 0, -1));
        d.refused("19 asks alone", 2, z -> z.best(2, 1, 2));
    }

    private static void bends() {
        ThrownMarks x = Due.cards(2, "32", "32", "32");
        d.due("20 its land is behind", x.bends(0, 0), 1);
        x.land(false, 0, 1);
        d.due("20 nobody is of its land", x.bends(0, 0), 0);
        x.land(true, 0, 1);
        d.due("20 its land is first", x.bends(0, 0), 0);
        d.due("20 the other's is not", x.bends(0, 1), 1);
        Due.rule(x, 1, "S1");
        d.due("20 struck out", x.bends(1, 1), 0);
        Due.rule(x, 1, "M");
        d.due("20 the middle", x.bends(1, 1), 0);
        ThrownMarks y = Due.cards(2, "32", "32", "00");
        d.due("20 all that counts", y.bends(0, 2), 1);
        y.lose(2, true);
        d.due("20 what is lost counts then", y.bends(0, 2), 1);
        ThrownMarks z = Due.cards(3, "500", "500", "500", "021");
        z.land(true, 2, 2);
        z.land(false, 3, 2);
        d.due("20 from 3 to 2", z.bends(0, 3), 1);
        z.mark(0, 1, 5);
        z.mark(1, 1, 1);
        d.due("20 not from 3", z.bends(0, 3), 0);
        d.refused("20 no rule", -1, w -> w.bends(3, 0));
        d.refused("20 no rule -1", -1, w -> w.bends(-1, 0));
        d.refused("20 no judge", -1, w -> w.bends(0, 4));
        d.refused("20 no judge -1", -1, w -> w.bends(0, -1));
        d.refused("20 asks alone", 1, w -> w.bends(2, 0));
    }

    private static void bent() {
        ThrownMarks x = Due.cards(2, "32", "32", "32");
        d.due("21 all", x.bent(0), 7);
        x.land(false, 1, 3);
        d.due("21 but 1", x.bent(0), 5);
        Due.rule(x, 1, "M");
        d.due("21 none", x.bent(1), 0);
        x.lose(2, true);
        d.due("21 lost too", x.bent(0), 5);
        x.card(0, Due.row("30"));
        x.land(true, 1, 3);
        d.due("21 what is first can't be bettered", x.bent(0), 2);
        d.refused("21 no rule", -1, z -> z.bent(3));
        d.refused("21 no rule -1", -1, z -> z.bent(-1));
    }

    private static void strike() {
        d.due("22 none can, ever", new ThrownMarks().strike(), 0);
        d.due("22 S1", Due.cards(2, "32", "32", "32").strike(), 1);
        d.due("22 S2", Due.cards(2, "32", "32", "32", "32", "02").strike(), 2);
        d.due("22 S3", Due.cards(2, "32", "32", "32", "32", "32", "02", "02").strike(), 3);
        ThrownMarks x = Due.some();
        String before = Due.state(Due.some());
        x.strike();
        d.due("22 changes nothing", Due.state(x).equals(before) ? 1 : 0, 1);
        ThrownMarks y = Due.cards(2, "32", "32", "32");
        Due.rule(y, 0, "M");
        Due.rule(y, 1, "P");
        Due.rule(y, 2, "R");
        d.due("22 whatever the rules are", y.strike(), 1);
    }

    private static void move() {
        ThrownMarks x = Due.cards(2, "32", "00");
        d.due("23 one better", x.move(0, 1, 1, 1), 11);
        d.due("23 one worse", x.move(0, 0, 0, 0), 9);
        d.due("23 as it is", x.move(0, 0, 0, 3), 10);
        d.due("23 marks are as before", x.at(0, 0), 3);
        d.due("23 of others it does not tell", x.move(0, 1, 1, 0), 10);
        x.lose(1, true);
        d.due("23 what is lost stays so", x.move(0, 1, 1, 5), 10);
        ThrownMarks y = Due.cards(4, "5550", "3330", "0000");
        d.due("23 not enough", y.move(0, 2, 3, 5), 10);
        ThrownMarks z = Due.cards(4, "1110");
        d.due("23 three better", z.move(0, 0, 3, 5), 13);
        ThrownMarks w = Due.cards(4, "2111");
        d.due("23 three worse", w.move(0, 0, 0, 0), 7);
        Due.rule(w, 2, "P");
        d.due("23 by another rule", w.move(2, 0, 0, 1), 10);
        d.refused("23 no rule", -1, v -> v.move(3, 0, 0, 0));
        d.refused("23 no judge", -1, v -> v.move(0, 4, 0, 0));
        d.refused("23 no judge -1", -1, v -> v.move(0, -1, 0, 0));
        d.refused("23 no skater", -1, v -> v.move(0, 0, 3, 0));
        d.refused("23 no skater -1", -1, v -> v.move(0, 0, -1, 0));
        d.refused("23 bad", -2, v -> v.move(0, 0, 0, 6));
        d.refused("23 bad -1", -2, v -> v.move(0, 0, 0, -1));
        d.refused("23 first unknown", -1, v -> v.move(0, 0, 3, 6));
        d.refused("23 asks alone", 11, v -> v.move(2, 1, 0, 4));
    }
}
