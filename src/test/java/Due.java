/** What the tests share: what is due, texts in pieces, all that calls tell of an object's state. */
final class Due {
    private final String what;
    private int asked;
    private int wrong;

    Due(String what) {
        this.what = what;
    }

    interface Call {
        int of(ThrownMarks x);
    }

    void due(String call, long got, long want) {
        asked++;
        if (got != want) {
            wrong++;
            System.out.println(what + ": " + call + " answered " + got + ", due is " + want);
        }
    }

    /** On a card with something of everything: the call answers want, and nothing is changed by it. */
    void refused(String call, int want, Call refused) {
        ThrownMarks x = some();
        due(call, refused.of(x), want);
        asked++;
        String before = state(some());
        String after = state(x);
        if (!before.equals(after)) {
            wrong++;
            System.out.println(what + ": " + call + " changed\n  " + before + "\n  " + after);
        }
    }

    void end() {
        System.out.println(what + ": " + asked + " asked, " + wrong + " wrong");
        if (wrong != 0 || asked == 0) {
            System.exit(1);
        }
    }

    /** 4 judges, 3 skaters, marks, lands, judge 3 lost, rules M/R, W1203 and S0, a text of 7 bytes, a past card. */
    static ThrownMarks some() {
        ThrownMarks x = new ThrownMarks();
        x.panel(4, 3);
        x.card(0, row("531"));
        x.card(1, row("135"));
        x.card(2, row("224"));
        x.card(3, row("005"));
        x.land(false, 0, 1);
        x.land(true, 1, 1);
        x.land(false, 2, 3);
        x.land(true, 2, 3);
        x.keep();
        x.lose(3, true);
        rule(x, 0, "M/R");
        rule(x, 1, "W1203");
        text(x, "S1/M/S9");
        return x;
    }

    static int row(String figures) {
        return Integer.parseInt(figures, 6);
    }

    static ThrownMarks cards(int skaters, String... rows) {
        ThrownMarks x = new ThrownMarks();
        x.panel(rows.length, skaters);
        for (int j = 0; j < rows.length; j++) {
            x.card(j, row(rows[j]));
        }
        return x;
    }

    /** THE TEXT becomes this one. */
    static void text(ThrownMarks x, String text) {
        x.wipe();
        for (int at = 0; at < text.length(); at += 8) {
            int n = Math.min(8, text.length() - at);
            long v = 0;
            for (int i = 0; i < n; i++) {
                v = v << 8 | text.charAt(at + i);
            }
            x.write(n, v);
        }
    }

    static int rule(ThrownMarks x, int rule, String text) {
        text(x, text);
        return x.rule(rule);
    }

    static String state(ThrownMarks x) {
        StringBuilder s = new StringBuilder();
        for (int what = 0; what < 5; what++) {
            s.append(x.count(what)).append(' ');
        }
        for (int j = 0; j < x.count(0); j++) {
            int land = x.land(false, j, 0);
            x.land(false, j, land);
            int lost = x.lose(j, false);
            x.lose(j, lost == 1);
            s.append("; ").append(land).append(lost == 1 ? " lost" : "");
            for (int k = 0; k < x.count(1); k++) {
                s.append(' ').append(x.at(j, k));
            }
        }
        s.append("; lands");
        for (int k = 0; k < x.count(1); k++) {
            int land = x.land(true, k, 0);
            x.land(true, k, land);
            s.append(' ').append(land);
        }
        s.append("; fault ").append(x.fault());
        for (int r = 0; r < 3; r++) {
            s.append("; rule");
            for (int i = 0; i < 3; i++) {
                s.append(' ').append(x.part(r, i)).append(' ').append(x.worth(r, 0, i));
            }
            s.append(' ').append(x.worth(r, 1, 0)).append(' ').append(x.worth(r, 2, 0));
        }
        s.append("; leans");
        for (int j = 0; j < 7; j++) {
            s.append(' ').append(x.lean(j));
        }
        return s.toString();
    }
}
