import java.util.List;
import java.util.function.Consumer;

/** A state to ask in: how it comes about, and what can be said of it without asking. */
final class Scene {
    final String name;
    final int judges;
    final int skaters;
    final int past;
    final String text;
    final int[] parts;
    private final Consumer<Asked> build;

    private Scene(String name, int judges, int skaters, int past, String text, int[] parts, Consumer<Asked> build) {
        this.name = name;
        this.judges = judges;
        this.skaters = skaters;
        this.past = past;
        this.text = text;
        this.parts = parts;
        this.build = build;
    }

    /** As it is on this new object. */
    Asked on(Object fresh) {
        Asked asked = new Asked(fresh);
        build.accept(asked);
        return asked;
    }

    int rows() {
        int many = 1;
        for (int s = 0; s < skaters; s++) {
            many *= 6;
        }
        return many;
    }

    static final List<Scene> ALL = List.of(
        new Scene("new", 5, 3, 0, "", new int[] {1, 1, 1}, a -> { }),
        new Scene("least", 1, 1, 0, "M", new int[] {1, 1, 1}, Scene::least),
        new Scene("one judge", 1, 4, 7, "S0/S1/S2/", new int[] {1, 3, 3}, Scene::oneJudge),
        new Scene("one skater", 7, 1, 1, "", new int[] {1, 2, 1}, Scene::oneSkater),
        new Scene("full text", 5, 3, 0, "W12345/W54321/S0", new int[] {3, 1, 3}, Scene::fullText),
        new Scene("some", 4, 3, 1, "S1/M/S9", new int[] {2, 1, 1}, Scene::some),
        new Scene("all lost", 3, 3, 2, "M/R/P", new int[] {3, 2, 1}, Scene::allLost),
        new Scene("told anew", 2, 2, 1, "W1234567/S0", new int[] {2, 1, 3}, Scene::toldAnew),
        new Scene("told more", 5, 4, 1, "R", new int[] {1, 2, 1}, Scene::toldMore),
        new Scene("most", 7, 4, 8, "W1234567/M/W1234", new int[] {3, 3, 3}, Scene::most));

    private static void least(Asked a) {
        a.ask("panel", 1, 1);
        a.ask("card", 0, 5);
        a.text("M");
    }

    private static void oneJudge(Asked a) {
        a.ask("panel", 1, 4);
        rows(a, "1432");
        lands(a, "2", "0212");
        a.rule(1, "R/P/W9");
        a.rule(2, "S1/M/P");
        for (int i = 0; i < 7; i++) {
            a.ask("keep");
            a.ask("mark", 0, i % 4, 5 - i % 6);
        }
        a.text("S0/S1/S2/");
    }

    private static void oneSkater(Asked a) {
        a.ask("panel", 7, 1);
        rows(a, "0", "5", "1", "4", "2", "3", "3");
        lands(a, "0123012", "1");
        a.ask("keep");
        a.ask("lose", 0, true);
        a.ask("lose", 6, true);
        a.rule(0, "S2");
        a.rule(1, "W9090909/M");
        a.rule(2, "R");
        a.ask("wipe");
    }

    private static void fullText(Asked a) {
        rows(a, "543", "354", "435", "120", "012");
        lands(a, "01201", "012");
        a.text("W12345/W54321/S0");
        a.ask("rule", 0);
        a.ask("rule", 2);
    }

    private static void rows(Asked a, String... rows) {
        for (int j = 0; j < rows.length; j++) {
            a.ask("card", j, Due.row(rows[j]));
        }
    }

    private static void lands(Asked a, String judges, String skaters) {
        for (int j = 0; j < judges.length(); j++) {
            a.ask("land", false, j, judges.charAt(j) - '0');
        }
        for (int s = 0; s < skaters.length(); s++) {
            a.ask("land", true, s, skaters.charAt(s) - '0');
        }
    }

    private static void some(Asked a) {
        a.ask("panel", 4, 3);
        rows(a, "531", "135", "224", "005");
        lands(a, "1030", "013");
        a.ask("keep");
        a.ask("lose", 3, true);
        a.rule(0, "M/R");
        a.rule(1, "W1203");
        a.text("S1/M/S9");
    }

    private static void allLost(Asked a) {
        a.ask("panel", 3, 3);
        rows(a, "520", "311", "045");
        lands(a, "012", "011");
        a.rule(0, "S1/P/W210");
        a.rule(1, "R/S0");
        a.rule(2, "M");
        a.ask("keep");
        for (int j = 0; j < 3; j++) {
            a.ask("lose", j, true);
        }
        a.ask("keep");
        a.text("M/R/P");
    }

    /** Rules of seven judges and a past card of them, but two judges now. */
    private static void toldAnew(Asked a) {
        a.ask("panel", 7, 4);
        rows(a, "5432", "0123", "5050", "0505", "1212", "3333", "0001");
        lands(a, "0123012", "0123");
        a.ask("keep");
        a.rule(0, "W9876543/R");
        a.rule(2, "P/M/S1");
        a.text("W1234567/S0");
        tries(a);
        a.ask("panel", 2, 2);
        rows(a, "42", "15");
        lands(a, "10", "01");
    }

    /** One judge and one skater before, so that nothing that was made for them may be looked at. */
    private static void toldMore(Asked a) {
        a.ask("panel", 1, 1);
        a.ask("card", 0, 3);
        a.rule(1, "W9/R");
        a.ask("keep");
        tries(a);
        a.ask("panel", 5, 4);
        rows(a, "5432", "0350", "4025", "1200", "1503");
        lands(a, "01231", "1022");
        a.ask("lose", 0, true);
        a.rule(2, "R");
    }

    /** Calls that try other marks: what they tried is nothing to the calls behind them. */
    private static void tries(Asked a) {
        a.ask("could", 0, 0, 0);
        a.ask("bloc", 0, 1, 0);
        a.ask("rests", 0, true);
        a.ask("place", 0, 0);
    }

    private static void most(Asked a) {
        a.ask("panel", 7, 4);
        rows(a, "5555", "3005", "1321", "0014", "4344", "1541", "0205");
        lands(a, "0123013", "0321");
        a.rule(0, "W9876543/R/P");
        a.rule(1, "S3/M/P");
        a.rule(2, "P/R/S1");
        for (int i = 0; i < 8; i++) {
            a.ask("keep");
            a.ask("mark", i % 7, i % 4, i % 6);
        }
        a.text("W1234567/M/W1234");
    }
}
