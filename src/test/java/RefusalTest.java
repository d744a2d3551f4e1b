import java.util.ArrayList;
import java.util.List;

/**
 * Section 6, for each call in each scene: every argument at the least and the greatest that is allowed, the first
 * beyond each, and both ends of the range of its type, each with each. What is refused is told by the table in Face
 * and changes no answer; what is allowed answers as the oracle does.
 */
public final class RefusalTest {
    private static final int UNKNOWN = -1, BAD = -2, LATE = -3, FULL = -4;
    private static final int BATCH = 150;
    private static int asked;
    private static int refused;
    private static int wrong;

    private final Scene scene;
    private final List<Object[]> batch = new ArrayList<>();
    private final List<List<String>> before = new ArrayList<>();

    private RefusalTest(Scene scene) {
        this.scene = scene;
        for (int slice = 0; slice < Answers.slices(scene); slice++) {
            before.add(Answers.of(scene, scene.on(new ThrownMarks()), slice));
        }
    }

    public static void main(String[] args) {
        for (Scene scene : Scene.ALL) {
            RefusalTest test = new RefusalTest(scene);
            test.answersAreTheOracles();
            for (Face.Call call : Face.CALLS) {
                test.all(call, new Object[call.bounds().length], 0);
                test.nothingIsChanged(call);
            }
        }
        System.out.println("refusals: " + asked + " asked, " + refused + " of them refused, " + wrong + " wrong");
        if (wrong != 0 || refused < 5000 || asked - refused < 1000) {
            System.exit(1);
        }
    }

    private void fault(String what) {
        wrong++;
        if (wrong < 30) {
            System.out.println("refusals: in " + scene.name + ": " + what);
        }
    }

    private void answersAreTheOracles() {
        for (int slice = 0; slice < before.size(); slice++) {
            List<String> due = Answers.of(scene, scene.on(new Oracle()), slice);
            for (int i = 0; i < due.size(); i++) {
                asked++;
                if (!due.get(i).equals(before.get(slice).get(i))) {
                    fault(before.get(slice).get(i) + ", due is " + due.get(i));
                }
            }
        }
    }

    /** Each row of arguments that can be made of the edges of each. */
    private void all(Face.Call call, Object[] row, int at) {
        if (at == row.length) {
            one(call, row.clone());
            return;
        }
        for (Object edge : edges(call.bounds()[at], at == 0 ? null : row[0])) {
            row[at] = edge;
            all(call, row, at + 1);
        }
    }

    private List<Object> edges(Face.Bound bound, Object first) {
        switch (bound) {
            case FLAG: return List.of(false, true);
            case LONG: return List.of(Long.MIN_VALUE, -1L, 0L, (long) 'M', Long.MAX_VALUE);
            case ANY: return List.of(Integer.MIN_VALUE, -1, 0, 1, 2, 3, 4, Integer.MAX_VALUE);
            default: break;
        }
        int greatest = Face.greatest(scene, bound, first);
        int least = Face.least(bound);
        List<Object> edges = new ArrayList<>(List.of(Integer.MIN_VALUE, least - 1, least));
        if (greatest > least) {
            edges.add(greatest);
        }
        if (greatest >= least) {
            edges.add(greatest + 1);
        }
        edges.add(Integer.MAX_VALUE);
        return edges;
    }

    private void one(Face.Call call, Object[] row) {
        int due = due(call, row);
        asked++;
        if (due == 0) {
            allowed(call, row);
            return;
        }
        refused++;
        int answer = scene.on(new ThrownMarks()).ask(call.name(), row);
        if (answer != due) {
            fault(Asked.told(call.name(), row) + " answered " + answer + ", due is " + due);
        }
        batch.add(row);
        if (batch.size() == BATCH) {
            nothingIsChanged(call);
        }
    }

    private int due(Face.Call call, Object[] row) {
        for (int refusal : new int[] {UNKNOWN, BAD}) {
            for (int i = 0; i < row.length; i++) {
                Face.Bound bound = call.bounds()[i];
                if (bound.refusal == refusal && isBeyond(bound, row[i], row[0])) {
                    return refusal;
                }
            }
        }
        switch (call.name()) {
            case "write": return scene.text.length() + (int) row[0] > 16 ? FULL : 0;
            case "keep": return scene.past == 8 ? FULL : 0;
            case "rule": return scene.on(new Oracle()).ask("fault") == -9 ? 0 : LATE;
            case "turns": return dueOfTurns((int) row[0], (int) row[1], (int) row[2], (int) row[3]);
            default: return 0;
        }
    }

    private boolean isBeyond(Face.Bound bound, Object argument, Object first) {
        int v = (int) argument;
        return v < Face.least(bound) || v > Face.greatest(scene, bound, first);
    }

    private int dueOfTurns(int rule, int a, int b, int third) {
        if (a == b || a == third || b == third) {
            return BAD;
        }
        Asked oracle = scene.on(new Oracle());
        return oracle.ask("place", rule, a) < oracle.ask("place", rule, b) ? 0 : LATE;
    }

    private void allowed(Face.Call call, Object[] row) {
        Asked mine = scene.on(new ThrownMarks());
        Asked oracle = scene.on(new Oracle());
        int answer = mine.ask(call.name(), row);
        int due = oracle.ask(call.name(), row);
        if (answer != due) {
            fault(Asked.told(call.name(), row) + " answered " + answer + ", due is " + due);
        }
        for (int what = 0; what <= 4; what++) {
            if (mine.ask("count", what) != oracle.ask("count", what)) {
                fault("behind " + Asked.told(call.name(), row) + " count(" + what + ") is wrong");
            }
        }
    }

    /** All that was refused since it was last asked, on one object, and then all answers. */
    private void nothingIsChanged(Face.Call call) {
        for (int slice = 0; slice < before.size() && !batch.isEmpty(); slice++) {
            Asked mine = scene.on(new ThrownMarks());
            for (Object[] row : batch) {
                mine.ask(call.name(), row);
            }
            List<String> after = Answers.of(scene, mine, slice);
            for (int i = 0; i < after.size(); i++) {
                if (!after.get(i).equals(before.get(slice).get(i))) {
                    fault("behind what " + call.name() + " refused " + after.get(i) + ", before " + before.get(slice).get(i));
                }
            }
        }
        batch.clear();
    }
}
