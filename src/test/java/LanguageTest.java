import java.io.IOException;
import java.lang.reflect.Constructor;
import java.lang.reflect.Field;
import java.lang.reflect.Method;
import java.lang.reflect.Modifier;
import java.nio.charset.StandardCharsets;
import java.nio.file.Files;
import java.nio.file.Path;
import java.util.ArrayList;
import java.util.List;
import java.util.Map;
import java.util.Set;
import java.util.TreeMap;
import java.util.TreeSet;
import java.util.regex.Matcher;
import java.util.regex.Pattern;

/** What of LANGUAGE.md can be seen by a look at the source and the class. */
public final class LanguageTest {
    private static final Path SOURCE = Path.of("src/main/java/ThrownMarks.java");
    private static final String[] FACE = {
        "panel(int,int)", "land(boolean,int,int)", "mark(int,int,int)", "card(int,int)", "lose(int,boolean)",
        "at(int,int)", "write(int,long)", "wipe()", "fault()", "rule(int)", "part(int,int)", "worth(int,int,int)",
        "place(int,int)", "order(int,int)", "first(int)", "apart(int,int)", "could(int,int,int)", "best(int,int,int)",
        "bends(int,int)", "bent(int)", "strike()", "move(int,int,int,int)", "bloc(int,int,int)", "few(int,int,int)",
        "drawn(int,int,int)", "leftOut(int)", "turns(int,int,int,int)", "thirds(int)", "keep()", "forget()",
        "lean(int)", "seldom(int)", "leaner()", "again(int)", "minded(int,int,int)", "rest(int,int)",
        "rests(int,boolean)", "count(int)"};
    private static int wrong;

    public static void main(String[] args) throws IOException {
        String source = Files.readString(SOURCE, StandardCharsets.UTF_8);
        String code = source.replaceAll("(?s)/\\*.*?\\*/", "").replaceAll("//[^\n]*", "");
        face();
        classes();
        words(code);
        library(code);
        madeInConstructorsAlone(code);
        methodsAreShort(source);
        depth(code);
        for (int i = 0; i < source.length(); i++) {
            rule(source.charAt(i) < 128, "signs are 1 to 127");
        }
        System.out.println("language: " + wrong + " wrong");
        if (wrong != 0) {
            System.exit(1);
        }
    }

    private static void rule(boolean kept, String what) {
        if (!kept) {
            wrong++;
            System.out.println("language: " + what);
        }
    }

    private static String signed(Method m) {
        StringBuilder s = new StringBuilder(m.getName()).append('(');
        for (Class<?> type : m.getParameterTypes()) {
            s.append(s.charAt(s.length() - 1) == '(' ? "" : ",").append(type.getName());
        }
        return s.append(')').toString();
    }

    private static void face() {
        Class<?> c = ThrownMarks.class;
        rule(Modifier.isPublic(c.getModifiers()) && Modifier.isFinal(c.getModifiers()), "public and final");
        Set<String> due = new TreeSet<>(List.of(FACE));
        Set<String> seen = new TreeSet<>();
        for (Method m : c.getDeclaredMethods()) {
            if (Modifier.isPublic(m.getModifiers())) {
                seen.add(signed(m));
                rule(m.getReturnType() == int.class, m.getName() + " answers an int");
                rule(!Modifier.isStatic(m.getModifiers()), m.getName() + " is no static one");
            } else {
                rule(Modifier.isPrivate(m.getModifiers()), m.getName() + " is private");
            }
        }
        rule(due.equals(seen), "the face is " + seen);
        rule(c.getDeclaredConstructors().length == 1, "one constructor");
        for (Constructor<?> k : c.getDeclaredConstructors()) {
            rule(Modifier.isPublic(k.getModifiers()) && k.getParameterCount() == 0, "a public constructor");
        }
        Set<String> constants = new TreeSet<>();
        for (Field f : c.getDeclaredFields()) {
            if (Modifier.isPublic(f.getModifiers())) {
                constants.add(f.getName());
                rule(Modifier.isStatic(f.getModifiers()) && Modifier.isFinal(f.getModifiers()), f + " is a constant");
            } else {
                rule(Modifier.isPrivate(f.getModifiers()), f.getName() + " is private");
            }
        }
        rule(constants.equals(Set.of("UNKNOWN", "BAD", "LATE", "FULL", "NONE")), "the constants are " + constants);
    }

    private static void classes() {
        List<Class<?>> all = new ArrayList<>(List.of(ThrownMarks.class.getDeclaredClasses()));
        Set<String> names = new TreeSet<>();
        for (String call : FACE) {
            names.add(call.substring(0, call.indexOf('(')));
        }
        rule(all.size() < 12, "some twelve classes");
        for (Class<?> c : all) {
            rule(Modifier.isStatic(c.getModifiers()) && !Modifier.isPublic(c.getModifiers()), c + " is static, not public");
            rule(c.getDeclaredClasses().length == 0, c + " holds no other");
        }
        all.add(ThrownMarks.class);
        for (Class<?> c : all) {
            int fields = 0;
            for (Field f : c.getDeclaredFields()) {
                boolean constant = Modifier.isStatic(f.getModifiers());
                fields += constant ? 0 : 1;
                rule(!constant || Modifier.isFinal(f.getModifiers()), f + " is final");
            }
            rule(fields <= 20, c + " has some twenty fields");
            for (Method m : c.getDeclaredMethods()) {
                rule(!m.isSynthetic(), m + " is written out");
                rule(m.getParameterCount() <= 7, m + " has seven parameters at most");
                rule(Modifier.isPublic(m.getModifiers()) || !names.contains(m.getName()), m + " bears a public one's name");
            }
        }
    }

    private static void words(String code) {
        String[] none = {"throw", "throws", "try", "catch", "finally", "synchronized", "volatile", "assert", "package",
            "import", "native", "strictfp", "transient", "instanceof", "hashCode", "toString", "equals", "while(true)",
            "Object", "double", "float", "Thread", "System.exit", "System.out", "System.nanoTime"};
        for (String word : none) {
            rule(!Pattern.compile("\\b" + Pattern.quote(word) + "\\b").matcher(code).find(), "no " + word);
        }
        rule(!code.contains("->") && !code.contains("::"), "no lambda, no reference to a method");
        rule(!code.contains("@"), "no annotation");
        rule(!code.contains("static {"), "no static block");
    }

    private static void library(String code) {
        Set<String> allowed = Set.of("System.arraycopy", "Integer.bitCount", "Math.min", "Math.max", "Math.abs");
        Matcher called = Pattern.compile("\\b([A-Z][a-z]\\w*\\.\\w+)\\(").matcher(code);
        while (called.find()) {
            rule(allowed.contains(called.group(1)), "no " + called.group(1));
        }
    }

    /** All calls of a run live in one room, so that no call makes anything. */
    private static void madeInConstructorsAlone(String code) {
        Matcher made = Pattern.compile("([^\n]*)\\bnew\\b[^\n]*").matcher(code);
        int many = 0;
        while (made.find()) {
            many++;
            String line = made.group().trim();
            rule(line.startsWith("private final ") || line.matches("(schemes|cards)\\[i\\] = new \\w+\\(\\);"), "made in a call: " + line);
        }
        rule(many > 10, "rows are made somewhere");
    }

    /** By names alone, so that it tells too much rather than too little: no ring, and seven calls deep at most. */
    private static void depth(String code) {
        Map<String, Set<String>> calls = new TreeMap<>();
        String in = "";
        for (String line : code.split("\n")) {
            Matcher head = Pattern.compile("^ {4,8}(?:(?:public|private|static|final) )*[\\w\\[\\]]+ (\\w+)\\(.*\\{$").matcher(line);
            if (head.find()) {
                in = head.group(1);
                calls.computeIfAbsent(in, k -> new TreeSet<>());
                continue;
            }
            Matcher call = Pattern.compile("\\b([a-z]\\w*)\\(").matcher(line.replaceAll("\\b[A-Z][a-z]\\w*\\.\\w+\\(", "("));
            while (!in.isEmpty() && call.find()) {
                calls.get(in).add(call.group(1));
            }
        }
        rule(calls.size() > 80, "methods are seen: " + calls.size());
        for (String name : calls.keySet()) {
            int depth = depth(name, calls, 0);
            rule(depth <= 7, name + " goes " + depth + " calls deep");
        }
    }

    private static int depth(String name, Map<String, Set<String>> calls, int above) {
        int most = 0;
        if (above < 20) {
            for (String next : calls.getOrDefault(name, Set.of())) {
                if (calls.containsKey(next)) {
                    most = Math.max(most, depth(next, calls, above + 1));
                }
            }
        }
        return most + 1;
    }

    private static void methodsAreShort(String source) {
        String[] lines = source.split("\n");
        int start = -1;
        String end = "";
        for (int i = 0; i < lines.length; i++) {
            if (start < 0 && lines[i].matches(" {4,8}(public |private |static )*\\w+(\\[\\])? ?\\w*\\(.*\\{")) {
                start = i;
                end = lines[i].replaceAll("\\S.*", "") + "}";
            } else if (start >= 0 && lines[i].equals(end)) {
                rule(i - start < 60, "too long: " + lines[start].trim());
                start = -1;
            }
        }
        rule(start < 0, "all methods end");
    }
}
