import java.util.List;

/** The calls of the document's face, and what each of their arguments may be. */
final class Face {
    /** UNKNOWN for what there is none of, BAD for what may not be told, 0 for what is never refused. */
    enum Bound {
        JUDGE(-1), SKATER(-1), WHO(-1), RULE(-1), EVER(-1), PAST(-1),
        JUDGES(-2), SKATERS(-2), LAND(-2), MARK(-2), ROW(-2), BYTES(-2), SET(-2), PLACE(-2), DRAW(-2), WHAT(-2), PART(-2),
        FLAG(0), LONG(0), ANY(0);

        final int refusal;

        Bound(int refusal) {
            this.refusal = refusal;
        }
    }

    record Call(String name, Bound... bounds) {
    }

    static final List<Call> CALLS = List.of(
        new Call("panel", Bound.JUDGES, Bound.SKATERS),
        new Call("land", Bound.FLAG, Bound.WHO, Bound.LAND),
        new Call("mark", Bound.JUDGE, Bound.SKATER, Bound.MARK),
        new Call("card", Bound.JUDGE, Bound.ROW),
        new Call("lose", Bound.JUDGE, Bound.FLAG),
        new Call("at", Bound.JUDGE, Bound.SKATER),
        new Call("write", Bound.BYTES, Bound.LONG),
        new Call("wipe"),
        new Call("fault"),
        new Call("rule", Bound.RULE),
        new Call("part", Bound.RULE, Bound.ANY),
        new Call("worth", Bound.RULE, Bound.SKATER, Bound.PART),
        new Call("place", Bound.RULE, Bound.SKATER),
        new Call("order", Bound.RULE, Bound.ANY),
        new Call("first", Bound.RULE),
        new Call("apart", Bound.RULE, Bound.RULE),
        new Call("could", Bound.RULE, Bound.JUDGE, Bound.SKATER),
        new Call("best", Bound.RULE, Bound.JUDGE, Bound.SKATER),
        new Call("bends", Bound.RULE, Bound.JUDGE),
        new Call("bent", Bound.RULE),
        new Call("strike"),
        new Call("move", Bound.RULE, Bound.JUDGE, Bound.SKATER, Bound.MARK),
        new Call("bloc", Bound.RULE, Bound.SET, Bound.SKATER),
        new Call("few", Bound.RULE, Bound.SKATER, Bound.PLACE),
        new Call("drawn", Bound.RULE, Bound.SKATER, Bound.DRAW),
        new Call("leftOut", Bound.RULE),
        new Call("turns", Bound.RULE, Bound.SKATER, Bound.SKATER, Bound.SKATER),
        new Call("thirds", Bound.RULE),
        new Call("keep"),
        new Call("forget"),
        new Call("lean", Bound.EVER),
        new Call("seldom", Bound.EVER),
        new Call("leaner"),
        new Call("again", Bound.PAST),
        new Call("minded", Bound.RULE, Bound.SET, Bound.SKATER),
        new Call("rest", Bound.RULE, Bound.SET),
        new Call("rests", Bound.RULE, Bound.FLAG),
        new Call("count", Bound.WHAT));

    private Face() {
    }

    static int least(Bound bound) {
        switch (bound) {
            case JUDGES: case SKATERS: case BYTES: case PLACE: case DRAW: return 1;
            default: return 0;
        }
    }

    /** The arguments before it tell of which rule a part is, and whether who is a skater. */
    static int greatest(Scene scene, Bound bound, Object first) {
        switch (bound) {
            case JUDGE: return scene.judges - 1;
            case SKATER: return scene.skaters - 1;
            case WHO: return (boolean) first ? scene.skaters - 1 : scene.judges - 1;
            case RULE: return 2;
            case EVER: return 6;
            case PAST: return scene.past - 1;
            case JUDGES: return 7;
            case SKATERS: return 4;
            case LAND: return 3;
            case MARK: return 5;
            case ROW: return scene.rows() - 1;
            case BYTES: return 8;
            case SET: return (1 << scene.judges) - 1;
            case PLACE: return 4;
            case DRAW: return scene.judges;
            case WHAT: return 4;
            case PART: return (int) first >= 0 && (int) first < 3 ? scene.parts[(int) first] - 1 : 0;
            default: throw new IllegalStateException(bound + " has no bound");
        }
    }
}
