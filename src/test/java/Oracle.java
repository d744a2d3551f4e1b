import java.util.ArrayList;
import java.util.Collections;
import java.util.List;
import java.util.regex.Matcher;
import java.util.regex.Pattern;

/** The document once more, said as plainly as can be and without a thought for speed, to compare answers with. */
final class Oracle {
    static final int UNKNOWN = -1, BAD = -2, LATE = -3, FULL = -4, NONE = -9;

    static final class Sheet {
        int n = 5;
        int m = 3;
        int[][] mark = new int[7][4];
        boolean[] lost = new boolean[7];
        int[] judgeLand = new int[7];
        int[] skaterLand = new int[4];

        Sheet copy() {
            Sheet c = new Sheet();
            c.n = n;
            c.m = m;
            for (int j = 0; j < 7; j++) {
                c.mark[j] = mark[j].clone();
            }
            c.lost = lost.clone();
            c.judgeLand = judgeLand.clone();
            c.skaterLand = skaterLand.clone();
            return c;
        }

        boolean stands(int j) {
            return j < n && !lost[j];
        }

        int standing() {
            int c = 0;
            for (int j = 0; j < n; j++) {
                c += lost[j] ? 0 : 1;
            }
            return c;
        }

        void row(int j, int number) {
            String figures = Integer.toString(number, 6);
            while (figures.length() < m) {
                figures = "0" + figures;
            }
            for (int s = 0; s < m; s++) {
                mark[j][s] = figures.charAt(s) - '0';
            }
        }

        int row(int j) {
            String figures = "";
            for (int s = 0; s < m; s++) {
                figures += mark[j][s];
            }
            return Integer.parseInt(figures, 6);
        }
    }

    Sheet card = new Sheet();
    String text = "";
    String[] rules = {"S0", "S0", "S0"};
    List<Sheet> past = new ArrayList<>();

    private int rows() {
        return (int) Math.round(Math.pow(6, card.m));
    }

    private boolean noRule(int r) {
        return r < 0 || r > 2;
    }

    private boolean noJudge(int j) {
        return j < 0 || j >= card.n;
    }

    private boolean noSkater(int s) {
        return s < 0 || s >= card.m;
    }

    private boolean noSet(int set) {
        return set < 0 || set >= 1 << card.n;
    }

    private static boolean in(int set, int j) {
        return (set >> j & 1) == 1;
    }

    // worth and place

    static int worth(String part, Sheet c, int s) {
        List<Integer> marks = new ArrayList<>();
        int ranks = 0;
        int weighted = 0;
        for (int j = 0; j < c.n; j++) {
            if (c.lost[j]) {
                continue;
            }
            marks.add(c.mark[j][s]);
            if (part.charAt(0) == 'W' && j + 1 < part.length()) {
                weighted += c.mark[j][s] * (part.charAt(j + 1) - '0');
            }
            for (int t = 0; t < c.m; t++) {
                if (t != s && c.mark[j][t] < c.mark[j][s]) {
                    ranks += 2;
                } else if (t != s && c.mark[j][t] == c.mark[j][s]) {
                    ranks += 1;
                }
            }
        }
        Collections.sort(marks);
        int many = marks.size();
        switch (part.charAt(0)) {
            case 'S': {
                int k = part.charAt(1) - '0';
                int sum = 0;
                if (many > 2 * k) {
                    for (int v : marks.subList(k, many - k)) {
                        sum += v;
                    }
                }
                return sum;
            }
            case 'M':
                if (many == 0) {
                    return 0;
                }
                if (many % 2 == 1) {
                    return 2 * marks.get(many / 2);
                }
                return marks.get(many / 2 - 1) + marks.get(many / 2);
            case 'R':
                return ranks;
            case 'P':
                return pairs(c, s);
            default:
                return weighted;
        }
    }

    private static int pairs(Sheet c, int s) {
        int sum = 0;
        for (int t = 0; t < c.m; t++) {
            int less = 0;
            int more = 0;
            for (int j = 0; j < c.n; j++) {
                if (!c.lost[j]) {
                    less += c.mark[j][t] < c.mark[j][s] ? 1 : 0;
                    more += c.mark[j][t] > c.mark[j][s] ? 1 : 0;
                }
            }
            if (t != s) {
                sum += less > more ? 2 : less == more ? 1 : 0;
            }
        }
        return sum;
    }

    static boolean ahead(String rule, Sheet c, int a, int b) {
        for (String part : rule.split("/")) {
            int x = worth(part, c, a);
            int y = worth(part, c, b);
            if (x != y) {
                return x > y;
            }
        }
        return false;
    }

    static int place(String rule, Sheet c, int s) {
        int place = 1;
        for (int t = 0; t < c.m; t++) {
            place += ahead(rule, c, t, s) ? 1 : 0;
        }
        return place;
    }

    static int first(String rule, Sheet c) {
        int bits = 0;
        for (int s = 0; s < c.m; s++) {
            bits += place(rule, c, s) == 1 ? 1 << s : 0;
        }
        return bits;
    }

    // the card

    int panel(int judges, int skaters) {
        if (judges < 1 || judges > 7 || skaters < 1 || skaters > 4) {
            return BAD;
        }
        card = new Sheet();
        card.n = judges;
        card.m = skaters;
        return judges * skaters;
    }

    int land(boolean skater, int who, int land) {
        if (skater ? noSkater(who) : noJudge(who)) {
            return UNKNOWN;
        }
        if (land < 0 || land > 3) {
            return BAD;
        }
        int[] lands = skater ? card.skaterLand : card.judgeLand;
        int was = lands[who];
        lands[who] = land;
        return was;
    }

    int mark(int j, int s, int v) {
        if (noJudge(j) || noSkater(s)) {
            return UNKNOWN;
        }
        if (v < 0 || v > 5) {
            return BAD;
        }
        int was = card.mark[j][s];
        card.mark[j][s] = v;
        return was;
    }

    int card(int j, int marks) {
        if (noJudge(j)) {
            return UNKNOWN;
        }
        if (marks < 0 || marks >= rows()) {
            return BAD;
        }
        int was = card.row(j);
        card.row(j, marks);
        return was;
    }

    int lose(int j, boolean lost) {
        if (noJudge(j)) {
            return UNKNOWN;
        }
        int was = card.lost[j] ? 1 : 0;
        card.lost[j] = lost;
        return was;
    }

    int at(int j, int s) {
        return noJudge(j) || noSkater(s) ? UNKNOWN : card.mark[j][s];
    }

    // rules

    int write(int n, long v) {
        if (n < 1 || n > 8) {
            return BAD;
        }
        if (text.length() + n > 16) {
            return FULL;
        }
        String hex = String.format("%016x", v).substring(16 - 2 * n);
        for (int i = 0; i < n; i++) {
            text += (char) Integer.parseInt(hex.substring(2 * i, 2 * i + 2), 16);
        }
        return text.length();
    }

    int wipe() {
        int was = text.length();
        text = "";
        return was;
    }

    /** The first beginning of the text that is neither a rule nor could become one tells the fault. */
    int fault() {
        String part = "(S[0-3]|M|R|P|W[0-9]{" + card.n + "})";
        Pattern whole = Pattern.compile(part + "(/" + part + "){0,2}");
        for (int i = 0; i <= text.length(); i++) {
            Matcher matcher = whole.matcher(text.substring(0, i));
            if (matcher.matches()) {
                continue;
            }
            if (!matcher.hitEnd()) {
                return i - 1;
            }
        }
        return whole.matcher(text).matches() ? NONE : text.length();
    }

    int rule(int rule) {
        if (noRule(rule)) {
            return UNKNOWN;
        }
        if (fault() != NONE) {
            return LATE;
        }
        rules[rule] = text;
        return text.split("/").length;
    }

    int part(int rule, int i) {
        if (noRule(rule)) {
            return UNKNOWN;
        }
        String[] parts = rules[rule].split("/");
        return i < 0 || i >= parts.length ? NONE : "SMRPW".indexOf(parts[i].charAt(0));
    }

    // places

    int worth(int rule, int s, int i) {
        if (noRule(rule) || noSkater(s)) {
            return UNKNOWN;
        }
        String[] parts = rules[rule].split("/");
        return i < 0 || i >= parts.length ? BAD : worth(parts[i], card, s);
    }

    int place(int rule, int s) {
        return noRule(rule) || noSkater(s) ? UNKNOWN : place(rules[rule], card, s);
    }

    int order(int rule, int i) {
        if (noRule(rule)) {
            return UNKNOWN;
        }
        List<Integer> row = new ArrayList<>();
        for (int s = 0; s < card.m; s++) {
            row.add(s);
        }
        row.sort((a, b) -> Integer.compare(place(rule, a), place(rule, b)));
        return i < 0 || i >= row.size() ? NONE : row.get(i);
    }

    int first(int rule) {
        return noRule(rule) ? UNKNOWN : first(rules[rule], card);
    }

    int apart(int rule, int other) {
        if (noRule(rule) || noRule(other)) {
            return UNKNOWN;
        }
        int unlike = 0;
        for (int a = 0; a < card.m; a++) {
            for (int b = 0; b < a; b++) {
                int one = Integer.compare(place(rule, a), place(rule, b));
                int two = Integer.compare(place(other, a), place(other, b));
                unlike += one != two ? 1 : 0;
            }
        }
        return unlike;
    }

    // one judge

    private Sheet otherwise(int j, int row) {
        Sheet c = card.copy();
        c.lost[j] = false;
        c.row(j, row);
        return c;
    }

    int could(int rule, int j, int s) {
        if (noRule(rule) || noJudge(j) || noSkater(s)) {
            return UNKNOWN;
        }
        int least = 9;
        for (int row = 0; row < rows(); row++) {
            least = Math.min(least, place(rules[rule], otherwise(j, row), s));
        }
        return least;
    }

    int best(int rule, int j, int s) {
        int least = could(rule, j, s);
        if (least == UNKNOWN) {
            return UNKNOWN;
        }
        for (int row = 0; row < rows(); row++) {
            if (place(rules[rule], otherwise(j, row), s) == least) {
                return row;
            }
        }
        throw new IllegalStateException();
    }

    private boolean bends(String rule, int j) {
        for (int row = 0; row < rows(); row++) {
            for (int s = 0; s < card.m; s++) {
                if (card.judgeLand[j] == card.skaterLand[s]
                        && place(rule, otherwise(j, row), s) < place(rule, card, s)) {
                    return true;
                }
            }
        }
        return false;
    }

    private int bent(String rule) {
        int bits = 0;
        for (int j = 0; j < card.n; j++) {
            bits += bends(rule, j) ? 1 << j : 0;
        }
        return bits;
    }

    int bends(int rule, int j) {
        return noRule(rule) || noJudge(j) ? UNKNOWN : bends(rules[rule], j) ? 1 : 0;
    }

    int bent(int rule) {
        return noRule(rule) ? UNKNOWN : bent(rules[rule]);
    }

    int strike() {
        int[] many = new int[4];
        int fewest = 9;
        for (int k = 0; k < 4; k++) {
            many[k] = Integer.bitCount(bent("S" + k));
            fewest = Math.min(fewest, many[k]);
        }
        int k = 0;
        while (many[k] != fewest) {
            k++;
        }
        return k;
    }

    int move(int rule, int j, int s, int v) {
        if (noRule(rule) || noJudge(j) || noSkater(s)) {
            return UNKNOWN;
        }
        if (v < 0 || v > 5) {
            return BAD;
        }
        Sheet then = card.copy();
        then.mark[j][s] = v;
        return place(rules[rule], card, s) - place(rules[rule], then, s) + 10;
    }

    // several

    private int byBloc(String rule, int set, int s) {
        Sheet c = card.copy();
        for (int j = 0; j < c.n; j++) {
            if (in(set, j)) {
                c.lost[j] = false;
                c.mark[j] = new int[4];
                c.mark[j][s] = 5;
            }
        }
        return place(rule, c, s);
    }

    int bloc(int rule, int set, int s) {
        if (noRule(rule) || noSkater(s)) {
            return UNKNOWN;
        }
        return noSet(set) ? BAD : byBloc(rules[rule], set, s);
    }

    int few(int rule, int s, int place) {
        if (noRule(rule) || noSkater(s)) {
            return UNKNOWN;
        }
        if (place < 1 || place > 4) {
            return BAD;
        }
        for (int size = 0; size <= card.n; size++) {
            for (int set = 0; set < 1 << card.n; set++) {
                if (Integer.bitCount(set) == size && byBloc(rules[rule], set, s) <= place) {
                    return set;
                }
            }
        }
        return NONE;
    }

    // lots, thirds

    int drawn(int rule, int s, int k) {
        if (noRule(rule) || noSkater(s)) {
            return UNKNOWN;
        }
        if (k < 1 || k > card.n) {
            return BAD;
        }
        int many = 0;
        for (int set = 0; set < 1 << card.n; set++) {
            Sheet c = card.copy();
            boolean all = Integer.bitCount(set) == k;
            for (int j = 0; j < card.n; j++) {
                all &= !in(set, j) || !card.lost[j];
                c.lost[j] = !in(set, j);
            }
            many += all && first(rules[rule], c) == 1 << s ? 1 : 0;
        }
        return many;
    }

    int leftOut(int rule) {
        if (noRule(rule)) {
            return UNKNOWN;
        }
        int many = 0;
        for (int j = 0; j < card.n; j++) {
            Sheet c = card.copy();
            c.lost[j] = true;
            many += !card.lost[j] && first(rules[rule], c) != first(rules[rule], card) ? 1 : 0;
        }
        return many;
    }

    private boolean turned(String rule, int a, int b, int third) {
        for (int j = 0; j < card.n; j++) {
            for (int v = 0; v <= 5; v++) {
                Sheet c = card.copy();
                c.mark[j][third] = v;
                if (!card.lost[j] && !ahead(rule, c, a, b)) {
                    return true;
                }
            }
        }
        return false;
    }

    int turns(int rule, int a, int b, int third) {
        if (noRule(rule) || noSkater(a) || noSkater(b) || noSkater(third)) {
            return UNKNOWN;
        }
        if (a == b || a == third || b == third) {
            return BAD;
        }
        if (!ahead(rules[rule], card, a, b)) {
            return LATE;
        }
        return turned(rules[rule], a, b, third) ? 1 : 0;
    }

    int thirds(int rule) {
        if (noRule(rule)) {
            return UNKNOWN;
        }
        int many = 0;
        for (int a = 0; a < card.m; a++) {
            for (int b = 0; b < card.m; b++) {
                for (int third = 0; third < card.m; third++) {
                    many += turns(rule, a, b, third) == 1 ? 1 : 0;
                }
            }
        }
        return many;
    }

    // the past

    int keep() {
        if (past.size() == 8) {
            return FULL;
        }
        past.add(card.copy());
        return past.size();
    }

    int forget() {
        int were = past.size();
        past.clear();
        return were;
    }

    private static int leanFor(Sheet c, int j, int land) {
        int sum = 0;
        for (int s = 0; s < c.m; s++) {
            for (int other = 0; other < c.n; other++) {
                if (c.skaterLand[s] == land && other != j && !c.lost[other]) {
                    sum += c.mark[j][s] - c.mark[other][s];
                }
            }
        }
        return sum;
    }

    int lean(int j) {
        if (j < 0 || j > 6) {
            return UNKNOWN;
        }
        int sum = 0;
        for (Sheet c : past) {
            sum += c.stands(j) ? leanFor(c, j, c.judgeLand[j]) : 0;
        }
        return sum;
    }

    int seldom(int j) {
        if (j < 0 || j > 6) {
            return UNKNOWN;
        }
        int many = 0;
        for (int other = 0; other < 7; other++) {
            int sum = 0;
            boolean some = false;
            for (Sheet c : past) {
                if (c.stands(j) && c.stands(other)) {
                    some = true;
                    sum += leanFor(c, other, c.judgeLand[j]);
                }
            }
            many += some && sum >= lean(j) ? 1 : 0;
        }
        return many;
    }

    int leaner() {
        if (past.isEmpty()) {
            return NONE;
        }
        int greatest = Integer.MIN_VALUE;
        for (int j = 0; j < 7; j++) {
            greatest = Math.max(greatest, lean(j));
        }
        int j = 0;
        while (lean(j) != greatest) {
            j++;
        }
        return j;
    }

    int again(int i) {
        if (i < 0 || i >= past.size()) {
            return UNKNOWN;
        }
        card = past.get(i).copy();
        return card.n * card.m;
    }

    // minds

    private Sheet mind(int set) {
        Sheet c = card.copy();
        for (int j = 0; j < c.n; j++) {
            for (int s = 0; s < c.m && in(set, j); s++) {
                c.mark[j][s] = c.judgeLand[j] == c.skaterLand[s] ? 5 : 0;
            }
        }
        return c;
    }

    private int leastOfLand(String rule, int set, int land) {
        int least = 9;
        Sheet c = mind(set);
        for (int s = 0; s < c.m; s++) {
            if (c.skaterLand[s] == land) {
                least = Math.min(least, place(rule, c, s));
            }
        }
        return least;
    }

    private boolean atRest(String rule, int set) {
        for (int j = 0; j < card.n; j++) {
            int land = card.judgeLand[j];
            if (!card.lost[j] && leastOfLand(rule, set ^ 1 << j, land) < leastOfLand(rule, set, land)) {
                return false;
            }
        }
        return true;
    }

    int minded(int rule, int set, int s) {
        if (noRule(rule) || noSkater(s)) {
            return UNKNOWN;
        }
        return noSet(set) ? BAD : place(rules[rule], mind(set), s);
    }

    int rest(int rule, int set) {
        if (noRule(rule)) {
            return UNKNOWN;
        }
        return noSet(set) ? BAD : atRest(rules[rule], set) ? 1 : 0;
    }

    int rests(int rule, boolean least) {
        if (noRule(rule)) {
            return UNKNOWN;
        }
        List<Integer> all = new ArrayList<>();
        for (int set = 0; set < 1 << card.n; set++) {
            if (atRest(rules[rule], set)) {
                all.add(set);
            }
        }
        return !least ? all.size() : all.isEmpty() ? NONE : all.get(0);
    }

    int count(int what) {
        switch (what) {
            case 0: return card.n;
            case 1: return card.m;
            case 2: return card.standing();
            case 3: return text.length();
            case 4: return past.size();
            default: return BAD;
        }
    }
}
