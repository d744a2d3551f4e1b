import java.util.Random;

/** Runs of calls by seeded chance: the class and the oracle answer alike, call by call. */
public final class OracleTest {
    private static final int RUNS = 600;
    private static final int[] ODD = {-1, 7, 8, 3, 4, 5, 6, -2, 16, 128, 1296, Integer.MAX_VALUE, Integer.MIN_VALUE};

    private final Random random;
    private final ThrownMarks x = new ThrownMarks();
    private final Oracle o = new Oracle();
    private final StringBuilder told = new StringBuilder();
    private final int oddness;
    private final int markKind;

    private OracleTest(long seed) {
        random = new Random(seed);
        oddness = random.nextInt(3) == 0 ? 8 : 40;
        markKind = random.nextInt(3);
    }

    public static void main(String[] args) {
        int wrong = 0;
        long[] calls = new long[1];
        for (int run = 0; run < RUNS && wrong < 5; run++) {
            String fault = new OracleTest(run).run(calls);
            if (fault != null) {
                wrong++;
                System.out.println("run " + run + ":" + fault);
            }
        }
        System.out.println(calls[0] + " calls compared, " + wrong + " runs with a wrong answer");
        if (wrong != 0) {
            System.exit(1);
        }
    }

    private String run(long[] calls) {
        int dear = 0;
        for (int call = 0; call < 110; call++) {
            int kind = call < 14 || random.nextInt(3) == 0 ? random.nextInt(9) : random.nextInt(39);
            boolean isDear = kind >= 17 && kind <= 20 || kind == 36;
            if (isDear && ++dear > 12) {
                kind = 12 + random.nextInt(5);
            }
            if (!alike(kind)) {
                return told.toString();
            }
            calls[0]++;
        }
        return null;
    }

    private boolean due(String call, int got, int want) {
        told.append("\n  ").append(call).append(" -> ").append(got);
        if (got != want) {
            told.append(", due is ").append(want);
        }
        return got == want;
    }

    private int among(int bound) {
        if (random.nextInt(oddness) == 0) {
            return ODD[random.nextInt(ODD.length)];
        }
        return random.nextInt(Math.max(1, bound));
    }

    private int judge() {
        return among(o.card.n);
    }

    private int skater() {
        return among(o.card.m);
    }

    private int rule() {
        return among(3);
    }

    private int set() {
        return among(1 << o.card.n);
    }

    private int row() {
        int row = 0;
        int all = random.nextInt(6);
        for (int s = 0; s < o.card.m; s++) {
            int v = markKind == 0 ? random.nextInt(6) : markKind == 1 ? random.nextInt(2) * 3 : all;
            row = row * 6 + (random.nextInt(9) == 0 ? random.nextInt(6) : v);
        }
        return random.nextInt(oddness) == 0 ? ODD[random.nextInt(ODD.length)] : row;
    }

    private String somePart() {
        switch (random.nextInt(6)) {
            case 0: case 1: return "S" + random.nextInt(4);
            case 2: return "M";
            case 3: return "R";
            case 4: return "P";
            default: break;
        }
        String part = "W";
        int many = random.nextInt(6) == 0 ? random.nextInt(9) : o.card.n;
        for (int i = 0; i < many; i++) {
            part += random.nextInt(10);
        }
        return part;
    }

    private String someText() {
        String text = somePart();
        int more = random.nextInt(9) == 0 ? 3 : random.nextInt(3);
        for (int i = 0; i < more; i++) {
            text += "/" + somePart();
        }
        if (random.nextInt(5) == 0) {
            int at = random.nextInt(text.length());
            text = text.substring(0, at) + (char) random.nextInt(256) + text.substring(at + 1);
        }
        if (random.nextInt(8) == 0) {
            text = text.substring(0, random.nextInt(text.length() + 1));
        }
        return text;
    }

    /** The text anew, in pieces, with odd bytes above those that count. */
    private boolean writes() {
        String text = someText();
        boolean good = due("wipe()", x.wipe(), o.wipe());
        int at = 0;
        while (at < text.length()) {
            int n = Math.min(text.length() - at, 1 + random.nextInt(8));
            long v = random.nextLong();
            for (int i = 0; i < n; i++) {
                v = v << 8 | text.charAt(at + i);
            }
            good &= due("write(" + n + ", " + v + "L)", x.write(n, v), o.write(n, v));
            at += n;
        }
        good &= due("fault()", x.fault(), o.fault());
        int rule = rule();
        return good & due("rule(" + rule + ")", x.rule(rule), o.rule(rule));
    }

    private boolean alike(int kind) {
        int a = judge();
        int s = skater();
        int r = rule();
        switch (kind) {
            case 0: {
                if (random.nextInt(4) != 0) {
                    return writes();
                }
                int n = random.nextInt(6) == 0 ? among(8) : 1 + random.nextInt(7);
                int m = random.nextInt(6) == 0 ? among(5) : 2 + random.nextInt(3);
                return due("panel(" + n + ", " + m + ")", x.panel(n, m), o.panel(n, m));
            }
            case 1: {
                boolean skater = random.nextBoolean();
                int who = skater ? s : a;
                int land = random.nextInt(3) == 0 ? among(4) : random.nextInt(2);
                return due("land(" + skater + ", " + who + ", " + land + ")",
                    x.land(skater, who, land), o.land(skater, who, land));
            }
            case 2: {
                int v = among(6);
                return due("mark(" + a + ", " + s + ", " + v + ")", x.mark(a, s, v), o.mark(a, s, v));
            }
            case 3: case 4: case 5: {
                int row = row();
                return due("card(" + a + ", " + row + ")", x.card(a, row), o.card(a, row));
            }
            case 6: {
                boolean lost = random.nextInt(3) == 0;
                return due("lose(" + a + ", " + lost + ")", x.lose(a, lost), o.lose(a, lost));
            }
            case 7: return due("at(" + a + ", " + s + ")", x.at(a, s), o.at(a, s));
            case 8: return writes();
            case 9: {
                int n = among(9);
                long v = random.nextLong();
                return due("write(" + n + ", " + v + "L)", x.write(n, v), o.write(n, v));
            }
            case 10: return due("fault()", x.fault(), o.fault());
            default: return kind < 22 ? alikePlaces(kind, a, s, r) : alikeMore(kind, a, s, r);
        }
    }

    private boolean alikePlaces(int kind, int a, int s, int r) {
        int i = among(4);
        switch (kind) {
            case 11: return due("part(" + r + ", " + i + ")", x.part(r, i), o.part(r, i));
            case 12: return due("worth(" + r + ", " + s + ", " + i + ")", x.worth(r, s, i), o.worth(r, s, i));
            case 13: return due("place(" + r + ", " + s + ")", x.place(r, s), o.place(r, s));
            case 14: return due("order(" + r + ", " + i + ")", x.order(r, i), o.order(r, i));
            case 15: return due("first(" + r + ")", x.first(r), o.first(r));
            case 16: {
                int other = rule();
                return due("apart(" + r + ", " + other + ")", x.apart(r, other), o.apart(r, other));
            }
            case 17: return due("could(" + r + ", " + a + ", " + s + ")", x.could(r, a, s), o.could(r, a, s));
            case 18: return due("best(" + r + ", " + a + ", " + s + ")", x.best(r, a, s), o.best(r, a, s));
            case 19: return due("bends(" + r + ", " + a + ")", x.bends(r, a), o.bends(r, a));
            case 20: {
                boolean one = random.nextInt(4) == 0;
                return one ? due("strike()", x.strike(), o.strike()) : due("bent(" + r + ")", x.bent(r), o.bent(r));
            }
            default: {
                int v = among(6);
                return due("move(" + r + ", " + a + ", " + s + ", " + v + ")", x.move(r, a, s, v), o.move(r, a, s, v));
            }
        }
    }

    private boolean alikeMore(int kind, int a, int s, int r) {
        int set = set();
        switch (kind) {
            case 22: return due("bloc(" + r + ", " + set + ", " + s + ")", x.bloc(r, set, s), o.bloc(r, set, s));
            case 23: {
                int place = random.nextInt(9) == 0 ? among(6) : 1 + random.nextInt(3);
                return due("few(" + r + ", " + s + ", " + place + ")", x.few(r, s, place), o.few(r, s, place));
            }
            case 24: {
                int k = random.nextInt(9) == 0 ? among(9) : 1 + random.nextInt(o.card.n);
                return due("drawn(" + r + ", " + s + ", " + k + ")", x.drawn(r, s, k), o.drawn(r, s, k));
            }
            case 25: return due("leftOut(" + r + ")", x.leftOut(r), o.leftOut(r));
            case 26: {
                int b = skater();
                int c = skater();
                return due("turns(" + r + ", " + s + ", " + b + ", " + c + ")", x.turns(r, s, b, c), o.turns(r, s, b, c));
            }
            case 27: return due("thirds(" + r + ")", x.thirds(r), o.thirds(r));
            case 28: case 29: return due("keep()", x.keep(), o.keep());
            case 30: return random.nextInt(4) != 0 || due("forget()", x.forget(), o.forget());
            case 31: {
                int j = among(7);
                return due("lean(" + j + ")", x.lean(j), o.lean(j));
            }
            case 32: {
                int j = among(7);
                return due("seldom(" + j + ")", x.seldom(j), o.seldom(j));
            }
            case 33: return due("leaner()", x.leaner(), o.leaner());
            case 34: {
                int i = among(8);
                return due("again(" + i + ")", x.again(i), o.again(i));
            }
            case 35: return due("minded(" + r + ", " + set + ", " + s + ")", x.minded(r, set, s), o.minded(r, set, s));
            case 36: {
                boolean least = random.nextBoolean();
                return due("rests(" + r + ", " + least + ")", x.rests(r, least), o.rests(r, least));
            }
            case 37: return due("rest(" + r + ", " + set + ")", x.rest(r, set), o.rest(r, set));
            default: {
                int what = among(6);
                return due("count(" + what + ")", x.count(what), o.count(what));
            }
        }
    }
}
