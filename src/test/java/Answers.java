import java.util.ArrayList;
import java.util.List;

/** All that an object can be asked in a scene, cut so that no object is asked too often. */
final class Answers {
    private static final int SLICE = 240;

    private record Question(String call, Object[] arguments) {
    }

    private final Scene scene;
    private final List<Question> questions = new ArrayList<>();

    private Answers(Scene scene) {
        this.scene = scene;
        places();
        oneJudge();
        several();
        lots();
        minds();
        for (int what = 0; what <= 4; what++) {
            put("count", what);
        }
    }

    static int slices(Scene scene) {
        return 1 + (new Answers(scene).questions.size() + SLICE - 1) / SLICE;
    }

    /** The answers of one slice; the last one is of calls that change what they tell of. */
    static List<String> of(Scene scene, Asked asked, int slice) {
        Answers all = new Answers(scene);
        List<String> told = new ArrayList<>();
        if (slice == slices(scene) - 1) {
            all.whatChanges(asked, told);
            return told;
        }
        int end = Math.min(all.questions.size(), (slice + 1) * SLICE);
        for (Question q : all.questions.subList(slice * SLICE, end)) {
            tell(asked, told, q.call, q.arguments);
        }
        return told;
    }

    private static void tell(Asked asked, List<String> told, String call, Object... arguments) {
        told.add(Asked.told(call, arguments) + " -> " + asked.ask(call, arguments));
    }

    private void put(String call, Object... arguments) {
        questions.add(new Question(call, arguments));
    }

    private int[] sets() {
        int all = (1 << scene.judges) - 1;
        return scene.judges == 1 ? new int[] {0, 1} : new int[] {0, 1, 0x55 & all, all - 1, all};
    }

    private void places() {
        put("fault");
        for (int r = 0; r < 3; r++) {
            put("first", r);
            for (int i = -1; i <= 4; i++) {
                put("part", r, i);
                put("order", r, i);
            }
            for (int s = 0; s < scene.skaters; s++) {
                put("place", r, s);
                for (int i = 0; i < scene.parts[r]; i++) {
                    put("worth", r, s, i);
                }
            }
            for (int other = 0; other < 3; other++) {
                put("apart", r, other);
            }
        }
        for (int j = 0; j < scene.judges; j++) {
            for (int s = 0; s < scene.skaters; s++) {
                put("at", j, s);
            }
        }
    }

    private void oneJudge() {
        put("strike");
        for (int r = 0; r < 3; r++) {
            put("bent", r);
            for (int j = 0; j < scene.judges; j++) {
                put("bends", r, j);
                for (int s = 0; s < scene.skaters; s++) {
                    put("could", r, j, s);
                    put("best", r, j, s);
                    put("move", r, j, s, 0);
                    put("move", r, j, s, 5);
                }
            }
        }
    }

    private void several() {
        for (int r = 0; r < 3; r++) {
            for (int s = 0; s < scene.skaters; s++) {
                for (int set : sets()) {
                    put("bloc", r, set, s);
                }
                for (int place = 1; place <= 4; place++) {
                    put("few", r, s, place);
                }
            }
        }
    }

    private void lots() {
        for (int r = 0; r < 3; r++) {
            put("leftOut", r);
            put("thirds", r);
            for (int s = 0; s < scene.skaters; s++) {
                for (int k = 1; k <= scene.judges; k++) {
                    put("drawn", r, s, k);
                }
                for (int b = 0; b < scene.skaters; b++) {
                    for (int third = 0; third < scene.skaters; third++) {
                        put("turns", r, s, b, third);
                    }
                }
            }
        }
    }

    private void minds() {
        put("leaner");
        for (int j = 0; j < 7; j++) {
            put("lean", j);
            put("seldom", j);
        }
        for (int r = 0; r < 3; r++) {
            put("rests", r, false);
            put("rests", r, true);
            for (int set : sets()) {
                put("rest", r, set);
                for (int s = 0; s < scene.skaters; s++) {
                    put("minded", r, set, s);
                }
            }
        }
    }

    private void whatChanges(Asked asked, List<String> told) {
        lands(asked, told, scene.judges, scene.skaters);
        for (int p = 0; p < scene.past; p++) {
            tell(asked, told, "again", p);
            lands(asked, told, asked.ask("count", 0), asked.ask("count", 1));
        }
        tell(asked, told, "panel", 1, 1);
        tell(asked, told, "fault");
        tell(asked, told, "rule", 2);
        tell(asked, told, "part", 2, 1);
        tell(asked, told, "wipe");
        tell(asked, told, "forget");
    }

    private static void lands(Asked asked, List<String> told, int judges, int skaters) {
        for (int j = 0; j < judges; j++) {
            tell(asked, told, "lose", j, true);
            tell(asked, told, "land", false, j, 0);
            tell(asked, told, "card", j, 0);
        }
        for (int s = 0; s < skaters; s++) {
            tell(asked, told, "land", true, s, 0);
        }
    }
}
