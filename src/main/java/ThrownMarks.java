/** Marks that judges give skaters, rules that throw some of them out, and what could be brought about. */
public final class ThrownMarks {
    public static final int UNKNOWN = -1, BAD = -2, LATE = -3, FULL = -4, NONE = -9;

    private static final int MOST_JUDGES = 7;
    private static final int MOST_SKATERS = 4;
    private static final int MOST_PARTS = 3;
    private static final int MOST_BYTES = 16;
    private static final int MOST_PAST = 8;
    private static final int JUDGES_AT_FIRST = 5;
    private static final int SKATERS_AT_FIRST = 3;
    private static final int MARKS = 6;
    private static final int TOP_MARK = 5;
    private static final int LANDS = 4;
    private static final int RULES = 3;
    private static final int STRIKES = 4;
    private static final int STRIKE = 0, MIDDLE = 1, RANKS = 2, PAIRS = 3, WEIGHTS = 4;
    private static final int SAME_PLACE = 10;

    private final Card now = new Card();
    private final Card draft = new Card();
    private final Text text = new Text();
    private final Scheme[] schemes = new Scheme[RULES];
    private final Scheme spare = new Scheme();
    private final Standing today = new Standing();
    private final Standing trial = new Standing();
    private final Reach reach = new Reach();
    private final Past kept = new Past();
    private final Minds minds = new Minds();

    public ThrownMarks() {
        now.begin(JUDGES_AT_FIRST, SKATERS_AT_FIRST);
        for (int i = 0; i < RULES; i++) {
            schemes[i] = new Scheme();
        }
    }

    // ---- the card

    public int panel(int judges, int skaters) {
        if (judges < 1 || judges > MOST_JUDGES || skaters < 1 || skaters > MOST_SKATERS) {
            return BAD;
        }
        now.begin(judges, skaters);
        return now.size();
    }

    public int land(boolean skater, int who, int land) {
        if (skater ? !now.hasSkater(who) : !now.hasJudge(who)) {
            return UNKNOWN;
        }
        if (land < 0 || land >= LANDS) {
            return BAD;
        }
        return skater ? now.moveSkater(who, land) : now.moveJudge(who, land);
    }

    public int mark(int judge, int skater, int v) {
        if (!now.hasJudge(judge) || !now.hasSkater(skater)) {
            return UNKNOWN;
        }
        if (!isMark(v)) {
            return BAD;
        }
        int before = now.markOf(judge, skater);
        now.give(judge, skater, v);
        return before;
    }

    public int card(int judge, int marks) {
        if (!now.hasJudge(judge)) {
            return UNKNOWN;
        }
        if (marks < 0 || marks >= now.rows()) {
            return BAD;
        }
        int before = now.rowOf(judge);
        now.giveRow(judge, marks);
        return before;
    }

    public int lose(int judge, boolean lost) {
        if (!now.hasJudge(judge)) {
            return UNKNOWN;
        }
        int before = now.counts(judge) ? 0 : 1;
        now.setLost(judge, lost);
        return before;
    }

    public int at(int judge, int skater) {
        if (!now.hasJudge(judge) || !now.hasSkater(skater)) {
            return UNKNOWN;
        }
        return now.markOf(judge, skater);
    }

    // ---- rules

    public int write(int n, long v) {
        if (n < 1 || n > 8) {
            return BAD;
        }
        if (text.length() + n > MOST_BYTES) {
            return FULL;
        }
        return text.append(n, v);
    }

    public int wipe() {
        return text.empty();
    }

    public int fault() {
        return spare.read(text, now.judges());
    }

    public int rule(int rule) {
        if (!isRule(rule)) {
            return UNKNOWN;
        }
        if (spare.read(text, now.judges()) != NONE) {
            return LATE;
        }
        schemes[rule].read(text, now.judges());
        return schemes[rule].parts();
    }

    public int part(int rule, int i) {
        if (!isRule(rule)) {
            return UNKNOWN;
        }
        return schemes[rule].hasPart(i) ? schemes[rule].kindOf(i) : NONE;
    }

    // ---- places

    public int worth(int rule, int skater, int i) {
        if (!isRule(rule) || !now.hasSkater(skater)) {
            return UNKNOWN;
        }
        if (!schemes[rule].hasPart(i)) {
            return BAD;
        }
        today.take(schemes[rule], now);
        return today.worthOf(i, skater);
    }

    public int place(int rule, int skater) {
        if (!isRule(rule) || !now.hasSkater(skater)) {
            return UNKNOWN;
        }
        today.take(schemes[rule], now);
        return today.placeOf(skater);
    }

    public int order(int rule, int i) {
        if (!isRule(rule)) {
            return UNKNOWN;
        }
        today.take(schemes[rule], now);
        int seen = 0;
        for (int place = 1; place <= now.skaters(); place++) {
            for (int skater = 0; skater < now.skaters(); skater++) {
                if (today.placeOf(skater) == place) {
                    if (seen == i) {
                        return skater;
                    }
                    seen++;
                }
            }
        }
        return NONE;
    }

    public int first(int rule) {
        if (!isRule(rule)) {
            return UNKNOWN;
        }
        today.take(schemes[rule], now);
        return today.leaders();
    }

    public int apart(int rule, int other) {
        if (!isRule(rule) || !isRule(other)) {
            return UNKNOWN;
        }
        today.take(schemes[rule], now);
        trial.take(schemes[other], now);
        int unlike = 0;
        for (int a = 0; a < now.skaters(); a++) {
            for (int b = a + 1; b < now.skaters(); b++) {
                if (today.ahead(a, b) != trial.ahead(a, b) || today.ahead(b, a) != trial.ahead(b, a)) {
                    unlike++;
                }
            }
        }
        return unlike;
    }

    // ---- one judge

    public int could(int rule, int judge, int skater) {
        if (!isRule(rule) || !now.hasJudge(judge) || !now.hasSkater(skater)) {
            return UNKNOWN;
        }
        reach.open(schemes[rule], now, judge);
        return reach.placeBy(reach.bestRow(skater, 1), skater);
    }

    public int best(int rule, int judge, int skater) {
        if (!isRule(rule) || !now.hasJudge(judge) || !now.hasSkater(skater)) {
            return UNKNOWN;
        }
        reach.open(schemes[rule], now, judge);
        return reach.bestRow(skater, 1);
    }

    public int bends(int rule, int judge) {
        if (!isRule(rule) || !now.hasJudge(judge)) {
            return UNKNOWN;
        }
        today.take(schemes[rule], now);
        reach.open(schemes[rule], now, judge);
        return bettersOwn(judge) ? 1 : 0;
    }

    public int bent(int rule) {
        if (!isRule(rule)) {
            return UNKNOWN;
        }
        return benders(schemes[rule]);
    }

    public int strike() {
        int leastStrike = 0;
        int fewest = MOST_JUDGES + 1;
        for (int k = 0; k < STRIKES; k++) {
            spare.strikeAlone(k);
            int bending = Integer.bitCount(benders(spare));
            if (bending < fewest) {
                fewest = bending;
                leastStrike = k;
            }
        }
        return leastStrike;
    }

    public int move(int rule, int judge, int skater, int v) {
        if (!isRule(rule) || !now.hasJudge(judge) || !now.hasSkater(skater)) {
            return UNKNOWN;
        }
        if (!isMark(v)) {
            return BAD;
        }
        today.take(schemes[rule], now);
        draft.copyFrom(now);
        draft.give(judge, skater, v);
        trial.take(schemes[rule], draft);
        return today.placeOf(skater) - trial.placeOf(skater) + SAME_PLACE;
    }

    // ---- several

    public int bloc(int rule, int set, int skater) {
        if (!isRule(rule) || !now.hasSkater(skater)) {
            return UNKNOWN;
        }
        if (!isJudgeSet(set)) {
            return BAD;
        }
        return placeByBloc(schemes[rule], set, skater);
    }

    public int few(int rule, int skater, int place) {
        if (!isRule(rule) || !now.hasSkater(skater)) {
            return UNKNOWN;
        }
        if (place < 1 || place > MOST_SKATERS) {
            return BAD;
        }
        int found = NONE;
        int fewest = MOST_JUDGES + 1;
        for (int set = 0; set < now.judgeSets(); set++) {
            int size = Integer.bitCount(set);
            if (size < fewest && placeByBloc(schemes[rule], set, skater) <= place) {
                fewest = size;
                found = set;
            }
        }
        return found;
    }

    // ---- lots, thirds

    public int drawn(int rule, int skater, int k) {
        if (!isRule(rule) || !now.hasSkater(skater)) {
            return UNKNOWN;
        }
        if (k < 1 || k > now.judges()) {
            return BAD;
        }
        int alone = 0;
        int counting = now.counting();
        for (int set = 0; set < now.judgeSets(); set++) {
            if ((set & ~counting) == 0 && Integer.bitCount(set) == k) {
                draft.copyFrom(now);
                draft.loseAllBut(set);
                trial.take(schemes[rule], draft);
                if (trial.leaders() == 1 << skater) {
                    alone++;
                }
            }
        }
        return alone;
    }

    public int leftOut(int rule) {
        if (!isRule(rule)) {
            return UNKNOWN;
        }
        today.take(schemes[rule], now);
        int unlike = 0;
        for (int judge = 0; judge < now.judges(); judge++) {
            if (now.counts(judge)) {
                draft.copyFrom(now);
                draft.setLost(judge, true);
                trial.take(schemes[rule], draft);
                if (trial.leaders() != today.leaders()) {
                    unlike++;
                }
            }
        }
        return unlike;
    }

    public int turns(int rule, int a, int b, int third) {
        if (!isRule(rule) || !now.hasSkater(a) || !now.hasSkater(b) || !now.hasSkater(third)) {
            return UNKNOWN;
        }
        if (a == b || a == third || b == third) {
            return BAD;
        }
        today.take(schemes[rule], now);
        if (!today.ahead(a, b)) {
            return LATE;
        }
        return doesTurn(schemes[rule], a, b, third) ? 1 : 0;
    }

    public int thirds(int rule) {
        if (!isRule(rule)) {
            return UNKNOWN;
        }
        today.take(schemes[rule], now);
        int ways = 0;
        for (int a = 0; a < now.skaters(); a++) {
            for (int b = 0; b < now.skaters(); b++) {
                for (int third = 0; third < now.skaters() && today.ahead(a, b); third++) {
                    if (third != a && third != b && doesTurn(schemes[rule], a, b, third)) {
                        ways++;
                    }
                }
            }
        }
        return ways;
    }

    // ---- the past

    public int keep() {
        return kept.hasRoom() ? kept.add(now) : FULL;
    }

    public int forget() {
        return kept.empty();
    }

    public int lean(int judge) {
        if (judge < 0 || judge >= MOST_JUDGES) {
            return UNKNOWN;
        }
        return kept.leanOf(judge);
    }

    public int seldom(int judge) {
        if (judge < 0 || judge >= MOST_JUDGES) {
            return UNKNOWN;
        }
        return kept.asMuch(judge);
    }

    public int leaner() {
        if (kept.size() == 0) {
            return NONE;
        }
        int greatest = 0;
        for (int judge = 1; judge < MOST_JUDGES; judge++) {
            if (kept.leanOf(judge) > kept.leanOf(greatest)) {
                greatest = judge;
            }
        }
        return greatest;
    }

    public int again(int past) {
        if (past < 0 || past >= kept.size()) {
            return UNKNOWN;
        }
        now.copyFrom(kept.cardAt(past));
        return now.size();
    }

    // ---- minds

    public int minded(int rule, int set, int skater) {
        if (!isRule(rule) || !now.hasSkater(skater)) {
            return UNKNOWN;
        }
        if (!isJudgeSet(set)) {
            return BAD;
        }
        draft.copyFrom(now);
        draft.leanAll(set);
        trial.take(schemes[rule], draft);
        return trial.placeOf(skater);
    }

    public int rest(int rule, int set) {
        if (!isRule(rule)) {
            return UNKNOWN;
        }
        if (!isJudgeSet(set)) {
            return BAD;
        }
        noteMind(schemes[rule], set);
        for (int judge = 0; judge < now.judges(); judge++) {
            noteMind(schemes[rule], set ^ (1 << judge));
        }
        return minds.atRest(now, set) ? 1 : 0;
    }

    public int rests(int rule, boolean least) {
        if (!isRule(rule)) {
            return UNKNOWN;
        }
        for (int set = 0; set < now.judgeSets(); set++) {
            noteMind(schemes[rule], set);
        }
        int many = 0;
        for (int set = 0; set < now.judgeSets(); set++) {
            if (minds.atRest(now, set)) {
                if (least) {
                    return set;
                }
                many++;
            }
        }
        return least ? NONE : many;
    }

    public int count(int what) {
        switch (what) {
            case 0: return now.judges();
            case 1: return now.skaters();
            case 2: return Integer.bitCount(now.counting());
            case 3: return text.length();
            case 4: return kept.size();
            default: return BAD;
        }
    }

    // ---- what several calls share

    private boolean isRule(int rule) {
        return rule >= 0 && rule < RULES;
    }

    private boolean isMark(int v) {
        return v >= 0 && v <= TOP_MARK;
    }

    private boolean isJudgeSet(int set) {
        return set >= 0 && set < now.judgeSets();
    }

    private int benders(Scheme scheme) {
        today.take(scheme, now);
        int bits = 0;
        for (int judge = 0; judge < now.judges(); judge++) {
            reach.open(scheme, now, judge);
            if (bettersOwn(judge)) {
                bits |= 1 << judge;
            }
        }
        return bits;
    }

    /** Wants today taken by the same scheme for which reach is open. */
    private boolean bettersOwn(int judge) {
        for (int skater = 0; skater < now.skaters(); skater++) {
            int place = today.placeOf(skater);
            if (place > 1 && now.ofOneLand(judge, skater)
                    && reach.placeBy(reach.bestRow(skater, place - 1), skater) < place) {
                return true;
            }
        }
        return false;
    }

    private int placeByBloc(Scheme scheme, int set, int skater) {
        draft.copyFrom(now);
        draft.favour(set, skater);
        trial.take(scheme, draft);
        return trial.placeOf(skater);
    }

    private boolean doesTurn(Scheme scheme, int a, int b, int third) {
        draft.copyFrom(now);
        for (int judge = 0; judge < now.judges(); judge++) {
            if (now.counts(judge)) {
                for (int v = 0; v < MARKS; v++) {
                    draft.give(judge, third, v);
                    trial.take(scheme, draft);
                    if (!trial.ahead(a, b)) {
                        return true;
                    }
                }
                draft.give(judge, third, now.markOf(judge, third));
            }
        }
        return false;
    }

    private void noteMind(Scheme scheme, int set) {
        draft.copyFrom(now);
        draft.leanAll(set);
        trial.take(scheme, draft);
        minds.note(set, draft, trial);
    }

    /** 2 for a lead, 1 for none, 0 for the contrary: what ranks and pairs are summed of. */
    private static int pointsFor(int lead) {
        return lead > 0 ? 2 : lead == 0 ? 1 : 0;
    }

    /** Who judges, who skates, of which lands, the marks, and whose are lost. */
    private static final class Card {
        private final int[] marks = new int[MOST_JUDGES * MOST_SKATERS];
        private final int[] judgeLands = new int[MOST_JUDGES];
        private final int[] skaterLands = new int[MOST_SKATERS];
        private int judges;
        private int skaters;
        private int lost;

        void begin(int manyJudges, int manySkaters) {
            judges = manyJudges;
            skaters = manySkaters;
            lost = 0;
            for (int i = 0; i < marks.length; i++) {
                marks[i] = 0;
            }
            for (int i = 0; i < judgeLands.length; i++) {
                judgeLands[i] = 0;
            }
            for (int i = 0; i < skaterLands.length; i++) {
                skaterLands[i] = 0;
            }
        }

        void copyFrom(Card other) {
            judges = other.judges;
            skaters = other.skaters;
            lost = other.lost;
            System.arraycopy(other.marks, 0, marks, 0, marks.length);
            System.arraycopy(other.judgeLands, 0, judgeLands, 0, judgeLands.length);
            System.arraycopy(other.skaterLands, 0, skaterLands, 0, skaterLands.length);
        }

        int judges() {
            return judges;
        }

        int skaters() {
            return skaters;
        }

        int size() {
            return judges * skaters;
        }

        /** How many sets of judges there are: each set is a number below this one. */
        int judgeSets() {
            return 1 << judges;
        }

        /** How many rows of marks a judge could give: each row is a number below this one. */
        int rows() {
            int many = 1;
            for (int skater = 0; skater < skaters; skater++) {
                many *= MARKS;
            }
            return many;
        }

        boolean hasJudge(int judge) {
            return judge >= 0 && judge < judges;
        }

        boolean hasSkater(int skater) {
            return skater >= 0 && skater < skaters;
        }

        int markOf(int judge, int skater) {
            return marks[judge * MOST_SKATERS + skater];
        }

        void give(int judge, int skater, int v) {
            marks[judge * MOST_SKATERS + skater] = v;
        }

        int rowOf(int judge) {
            int row = 0;
            for (int skater = 0; skater < skaters; skater++) {
                row = row * MARKS + markOf(judge, skater);
            }
            return row;
        }

        void giveRow(int judge, int row) {
            int left = row;
            for (int skater = skaters - 1; skater >= 0; skater--) {
                give(judge, skater, left % MARKS);
                left /= MARKS;
            }
        }

        boolean counts(int judge) {
            return judge >= 0 && judge < judges && (lost & (1 << judge)) == 0;
        }

        /** The judges that count, as bits. */
        int counting() {
            return (judgeSets() - 1) & ~lost;
        }

        void setLost(int judge, boolean isLost) {
            if (isLost) {
                lost |= 1 << judge;
            } else {
                lost &= ~(1 << judge);
            }
        }

        void loseAllBut(int set) {
            lost |= (judgeSets() - 1) & ~set;
        }

        int judgeLand(int judge) {
            return judgeLands[judge];
        }

        int skaterLand(int skater) {
            return skaterLands[skater];
        }

        boolean ofOneLand(int judge, int skater) {
            return judgeLands[judge] == skaterLands[skater];
        }

        /** The land that it was of. */
        int moveJudge(int judge, int land) {
            int before = judgeLands[judge];
            judgeLands[judge] = land;
            return before;
        }

        /** The land that it was of. */
        int moveSkater(int skater, int land) {
            int before = skaterLands[skater];
            skaterLands[skater] = land;
            return before;
        }

        /** A bloc: the judges of the set give one skater all, the others nothing, and count. */
        void favour(int set, int favoured) {
            lost &= ~set;
            for (int judge = 0; judge < judges; judge++) {
                if ((set & (1 << judge)) != 0) {
                    for (int skater = 0; skater < skaters; skater++) {
                        give(judge, skater, skater == favoured ? TOP_MARK : 0);
                    }
                }
            }
        }

        /** A mind: the judges of the set give skaters of their land all, the others nothing. */
        void leanAll(int set) {
            for (int judge = 0; judge < judges; judge++) {
                if ((set & (1 << judge)) != 0) {
                    for (int skater = 0; skater < skaters; skater++) {
                        give(judge, skater, ofOneLand(judge, skater) ? TOP_MARK : 0);
                    }
                }
            }
        }

        /** How far a judge that counts leans for the skaters of a land on this card. */
        int leanFor(int judge, int land) {
            int others = Integer.bitCount(counting()) - 1;
            int lean = 0;
            for (int skater = 0; skater < skaters; skater++) {
                if (skaterLands[skater] == land) {
                    lean += markOf(judge, skater) * others - marksBut(judge, skater);
                }
            }
            return lean;
        }

        private int marksBut(int left, int skater) {
            int sum = 0;
            for (int judge = 0; judge < judges; judge++) {
                if (judge != left && counts(judge)) {
                    sum += markOf(judge, skater);
                }
            }
            return sum;
        }
    }

    /** The text that becomes a rule: bytes, as numbers 0 to 255. */
    private static final class Text {
        private final int[] bytes = new int[MOST_BYTES];
        private int length;

        int length() {
            return length;
        }

        int empty() {
            int before = length;
            length = 0;
            return before;
        }

        int append(int n, long v) {
            for (int i = n - 1; i >= 0 && length < MOST_BYTES; i--) {
                bytes[length] = (int) ((v >>> (8 * i)) & 255);
                length++;
            }
            return length;
        }

        /** The byte at a place; NONE behind the end, which is no byte that a rule could want. */
        int byteAt(int place) {
            return place >= 0 && place < length ? bytes[place] : NONE;
        }
    }

    /** A rule as it was read: its parts one behind the other. */
    private static final class Scheme {
        private final int[] kinds = new int[MOST_PARTS];
        private final int[] strikes = new int[MOST_PARTS];
        private final int[] figures = new int[MOST_PARTS * MOST_JUDGES];
        private int parts;
        private int next;

        Scheme() {
            parts = 1;
        }

        int parts() {
            return parts;
        }

        boolean hasPart(int part) {
            return part >= 0 && part < parts;
        }

        int kindOf(int part) {
            return kinds[part];
        }

        int strikeOf(int part) {
            return strikes[part];
        }

        int figureOf(int part, int judge) {
            return figures[part * MOST_JUDGES + judge];
        }

        void strikeAlone(int k) {
            parts = 1;
            kinds[0] = STRIKE;
            strikes[0] = k;
        }

        /** Reads a text: the place of its fault, or NONE. */
        int read(Text text, int judges) {
            next = 0;
            for (parts = 0; parts < MOST_PARTS; parts++) {
                if (!readPart(text, judges)) {
                    return next;
                }
                if (text.byteAt(next) != '/') {
                    break;
                }
                next++;
            }
            if (parts == MOST_PARTS) {
                return next - 1;
            }
            parts++;
            return next == text.length() ? NONE : next;
        }

        /** Reads a part from next on, and leaves next behind it, or at its fault. */
        private boolean readPart(Text text, int judges) {
            kinds[parts] = kindBy(text.byteAt(next));
            if (kinds[parts] == NONE) {
                return false;
            }
            next++;
            switch (kinds[parts]) {
                case STRIKE: return readStrike(text);
                case WEIGHTS: return readFigures(text, judges);
                default: return true;
            }
        }

        private boolean readStrike(Text text) {
            int k = text.byteAt(next) - '0';
            if (k < 0 || k >= STRIKES) {
                return false;
            }
            strikes[parts] = k;
            next++;
            return true;
        }

        private boolean readFigures(Text text, int judges) {
            for (int judge = 0; judge < MOST_JUDGES; judge++) {
                figures[parts * MOST_JUDGES + judge] = 0;
            }
            for (int judge = 0; judge < judges; judge++) {
                int figure = text.byteAt(next) - '0';
                if (figure < 0 || figure > 9) {
                    return false;
                }
                figures[parts * MOST_JUDGES + judge] = figure;
                next++;
            }
            return true;
        }

        private static int kindBy(int letter) {
            switch (letter) {
                case 'S': return STRIKE;
                case 'M': return MIDDLE;
                case 'R': return RANKS;
                case 'P': return PAIRS;
                case 'W': return WEIGHTS;
                default: return NONE;
            }
        }
    }

    /** What one part of a rule makes of the marks of the judges that count. */
    private static final class Scale {
        private final int[] sorted = new int[MOST_JUDGES];

        int weigh(Scheme scheme, int part, Card card, int skater) {
            switch (scheme.kindOf(part)) {
                case STRIKE: return sumWithout(scheme.strikeOf(part), sortMarks(card, skater));
                case MIDDLE: return middleOf(sortMarks(card, skater));
                case RANKS: return ranks(card, skater);
                case PAIRS: return pairs(card, skater);
                default: return weighted(scheme, part, card, skater);
            }
        }

        /** How many more judges give a more than b, than less. */
        int leadOf(Card card, int a, int b) {
            int lead = 0;
            for (int judge = 0; judge < card.judges(); judge++) {
                if (card.counts(judge)) {
                    lead += pointsFor(card.markOf(judge, a) - card.markOf(judge, b)) - 1;
                }
            }
            return lead;
        }

        int ranks(Card card, int skater) {
            int sum = 0;
            for (int judge = 0; judge < card.judges(); judge++) {
                for (int other = 0; other < card.skaters() && card.counts(judge); other++) {
                    if (other != skater) {
                        sum += pointsFor(card.markOf(judge, skater) - card.markOf(judge, other));
                    }
                }
            }
            return sum;
        }

        private int pairs(Card card, int skater) {
            int sum = 0;
            for (int other = 0; other < card.skaters(); other++) {
                if (other != skater) {
                    sum += pointsFor(leadOf(card, skater, other));
                }
            }
            return sum;
        }

        /** The sum of so many sorted marks without the k least and the k greatest. */
        private int sumWithout(int k, int many) {
            int sum = 0;
            for (int i = k; i < many - k; i++) {
                sum += sorted[i];
            }
            return sum;
        }

        /** Of an odd number both indices are that of the one in the midst. */
        private int middleOf(int many) {
            return many == 0 ? 0 : sorted[(many - 1) / 2] + sorted[many / 2];
        }

        private int weighted(Scheme scheme, int part, Card card, int skater) {
            int sum = 0;
            for (int judge = 0; judge < card.judges(); judge++) {
                if (card.counts(judge)) {
                    sum += card.markOf(judge, skater) * scheme.figureOf(part, judge);
                }
            }
            return sum;
        }

        /** Puts a skater's marks into sorted, the least first: how many there are. */
        private int sortMarks(Card card, int skater) {
            int many = 0;
            for (int judge = 0; judge < card.judges(); judge++) {
                if (card.counts(judge)) {
                    int v = card.markOf(judge, skater);
                    int i = many;
                    while (i > 0 && sorted[i - 1] > v) {
                        sorted[i] = sorted[i - 1];
                        i--;
                    }
                    sorted[i] = v;
                    many++;
                }
            }
            return many;
        }
    }

    /** The skaters of one card by one rule: their worths, and who is ahead of whom. */
    private static final class Standing {
        private final Scale scale = new Scale();
        private final int[] worths = new int[MOST_PARTS * MOST_SKATERS];
        private int parts;
        private int skaters;

        void take(Scheme scheme, Card card) {
            parts = scheme.parts();
            skaters = card.skaters();
            for (int part = 0; part < parts; part++) {
                for (int skater = 0; skater < skaters; skater++) {
                    worths[part * MOST_SKATERS + skater] = scale.weigh(scheme, part, card, skater);
                }
            }
        }

        int worthOf(int part, int skater) {
            return worths[part * MOST_SKATERS + skater];
        }

        boolean ahead(int a, int b) {
            for (int part = 0; part < parts; part++) {
                if (worthOf(part, a) != worthOf(part, b)) {
                    return worthOf(part, a) > worthOf(part, b);
                }
            }
            return false;
        }

        int placeOf(int skater) {
            int place = 1;
            for (int other = 0; other < skaters; other++) {
                if (ahead(other, skater)) {
                    place++;
                }
            }
            return place;
        }

        /** The skaters at place 1, as bits. */
        int leaders() {
            int bits = 0;
            for (int skater = 0; skater < skaters; skater++) {
                if (placeOf(skater) == 1) {
                    bits |= 1 << skater;
                }
            }
            return bits;
        }
    }

    /**
     * What one judge could bring about. It has up to 1296 rows to try, so the worths are laid out once:
     * a worth is a number for the judge's own mark and, by ranks and pairs, one for each other skater,
     * by the points (0, 1, 2) that the judge's marks alone make against that one.
     */
    private static final class Reach {
        private static final int POINTS = 3;
        private final Scale scale = new Scale();
        private final Card card = new Card();
        private final int[] alone = new int[MOST_PARTS * MOST_SKATERS * MARKS];
        private final int[] beside = new int[MOST_PARTS * MOST_SKATERS * MOST_SKATERS * POINTS];
        private final boolean[] paired = new boolean[MOST_PARTS];
        private final int[] given = new int[MOST_SKATERS];
        private int parts;
        private int skaters;

        void open(Scheme scheme, Card from, int judge) {
            card.copyFrom(from);
            parts = scheme.parts();
            skaters = from.skaters();
            for (int part = 0; part < parts; part++) {
                int kind = scheme.kindOf(part);
                paired[part] = kind == RANKS || kind == PAIRS;
                card.setLost(judge, paired[part]);
                if (paired[part]) {
                    layBeside(part, kind == RANKS);
                    continue;
                }
                for (int skater = 0; skater < skaters; skater++) {
                    for (int v = 0; v < MARKS; v++) {
                        card.give(judge, skater, v);
                        alone[aloneAt(part, skater, v)] = scale.weigh(scheme, part, card, skater);
                    }
                }
            }
        }

        private void layBeside(int part, boolean ranks) {
            for (int skater = 0; skater < skaters; skater++) {
                int byOthers = ranks ? scale.ranks(card, skater) : 0;
                for (int v = 0; v < MARKS; v++) {
                    alone[aloneAt(part, skater, v)] = byOthers;
                }
                for (int other = 0; other < skaters; other++) {
                    int lead = ranks ? 0 : scale.leadOf(card, skater, other);
                    for (int points = 0; points < POINTS; points++) {
                        beside[besideAt(part, skater, other, points)] = pointsFor(lead + points - 1);
                    }
                }
            }
        }

        private static int aloneAt(int part, int skater, int v) {
            return (part * MOST_SKATERS + skater) * MARKS + v;
        }

        private static int besideAt(int part, int skater, int other, int points) {
            return ((part * MOST_SKATERS + skater) * MOST_SKATERS + other) * POINTS + points;
        }

        /** The first row by which a skater has its least place; a row that brings it to enough ends the search. */
        int bestRow(int skater, int enough) {
            int rows = card.rows();
            int found = 0;
            int least = MOST_SKATERS + 1;
            giveAll(0);
            for (int row = 0; row < rows && least > enough; row++) {
                int place = placeNow(skater);
                if (place < least) {
                    least = place;
                    found = row;
                }
                giveNext();
            }
            return found;
        }

        int placeBy(int row, int skater) {
            giveAll(row);
            return placeNow(skater);
        }

        private void giveAll(int row) {
            int left = row;
            for (int skater = skaters - 1; skater >= 0; skater--) {
                given[skater] = left % MARKS;
                left /= MARKS;
            }
        }

        private void giveNext() {
            for (int skater = skaters - 1; skater >= 0; skater--) {
                if (given[skater] < TOP_MARK) {
                    given[skater]++;
                    return;
                }
                given[skater] = 0;
            }
        }

        private int placeNow(int skater) {
            int place = 1;
            for (int other = 0; other < skaters; other++) {
                int lead = 0;
                for (int part = 0; part < parts && lead == 0; part++) {
                    lead = worthNow(part, other) - worthNow(part, skater);
                }
                if (lead > 0) {
                    place++;
                }
            }
            return place;
        }

        private int worthNow(int part, int skater) {
            int sum = alone[aloneAt(part, skater, given[skater])];
            if (paired[part]) {
                for (int other = 0; other < skaters; other++) {
                    if (other != skater) {
                        int points = pointsFor(given[skater] - given[other]);
                        sum += beside[besideAt(part, skater, other, points)];
                    }
                }
            }
            return sum;
        }
    }

    /** The cards that were kept; their rows are made once and used again after they are forgotten. */
    private static final class Past {
        private final Card[] cards = new Card[MOST_PAST];
        private int size;

        Past() {
            for (int i = 0; i < MOST_PAST; i++) {
                cards[i] = new Card();
            }
        }

        int size() {
            return size;
        }

        boolean hasRoom() {
            return size < MOST_PAST;
        }

        int add(Card card) {
            cards[size].copyFrom(card);
            size++;
            return size;
        }

        int empty() {
            int before = size;
            size = 0;
            return before;
        }

        Card cardAt(int i) {
            return cards[i];
        }

        int leanOf(int judge) {
            int lean = 0;
            for (int i = 0; i < size; i++) {
                if (cards[i].counts(judge)) {
                    lean += cards[i].leanFor(judge, cards[i].judgeLand(judge));
                }
            }
            return lean;
        }

        /** How many judges lean as much as this one or more, on its cards and in its lands. */
        int asMuch(int judge) {
            int lean = leanOf(judge);
            int many = 0;
            for (int other = 0; other < MOST_JUDGES; other++) {
                if (standsBeside(judge, other) && leanInPlaceOf(judge, other) >= lean) {
                    many++;
                }
            }
            return many;
        }

        private boolean standsBeside(int judge, int other) {
            for (int i = 0; i < size; i++) {
                if (cards[i].counts(judge) && cards[i].counts(other)) {
                    return true;
                }
            }
            return false;
        }

        private int leanInPlaceOf(int judge, int other) {
            int lean = 0;
            for (int i = 0; i < size; i++) {
                if (cards[i].counts(judge) && cards[i].counts(other)) {
                    lean += cards[i].leanFor(other, cards[i].judgeLand(judge));
                }
            }
            return lean;
        }
    }

    /** For each mind and land the least place of its skaters: to change a mind is to go to another one. */
    private static final class Minds {
        private static final int NO_SKATERS = 0;
        private final int[] leastPlaces = new int[(1 << MOST_JUDGES) * LANDS];

        void note(int set, Card card, Standing standing) {
            for (int land = 0; land < LANDS; land++) {
                int least = NO_SKATERS;
                for (int skater = 0; skater < card.skaters(); skater++) {
                    if (card.skaterLand(skater) == land) {
                        int place = standing.placeOf(skater);
                        least = least == NO_SKATERS ? place : Math.min(least, place);
                    }
                }
                leastPlaces[set * LANDS + land] = least;
            }
        }

        /** Wants the mind noted, and each that differs from it by one judge. */
        boolean atRest(Card card, int set) {
            for (int judge = 0; judge < card.judges(); judge++) {
                if (card.counts(judge) && wouldChange(set, 1 << judge, card.judgeLand(judge))) {
                    return false;
                }
            }
            return true;
        }

        private boolean wouldChange(int set, int bit, int land) {
            return leastPlaces[(set ^ bit) * LANDS + land] < leastPlaces[set * LANDS + land];
        }
    }
}
