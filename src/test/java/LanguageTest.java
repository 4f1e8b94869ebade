import java.lang.reflect.Field;
import java.lang.reflect.Method;
import java.lang.reflect.Modifier;
import java.nio.file.Files;
import java.nio.file.Path;
import java.util.ArrayList;
import java.util.List;
import java.util.Set;
import java.util.TreeMap;
import java.util.TreeSet;
import java.util.regex.Matcher;
import java.util.regex.Pattern;

/** The face of the class, and those rules of LANGUAGE.md that can be seen from outside or from its words. */
public final class LanguageTest {
    private static final String[] FACE = {
        "int begin(int)", "int setLimit(int)", "int freeze(int,int)", "int thaw()", "int addChange(boolean)",
        "int addStage(int,int,int,int)", "int putAfter(int,int)", "int changes()", "int stage(int,int,int)",
        "int append(int)", "int clearText()", "int faultPosition()", "int read(int)", "int start(int)",
        "int hold(int)", "int resume(int)", "int turnBack(int)", "int report(int,int,int)", "int pass(int)",
        "int time()", "int change(int,int)", "int probes(int,int)", "long chance(int,boolean)", "int has(int)",
        "int isFrozen(int)", "int forecast(int)", "int entries()", "int entry(int,int)", "int count(int,int)",
        "int save(int)", "int restore(int)", "long checksum()",
    };
    private static final String CONSTANTS = "BAD_INDEX=-11 BAD_VALUE=-12 NOT_POSSIBLE=-13 FULL=-14 NONE=-15 "
        + "PLANNED=0 RUNNING=1 HELD=2 DONE=3 TURNING=4 TURNED=5 FREE=0 NOT_UNDER_WAY=1 TURNS=2 IS_HELD=3 WAITS=4 "
        + "LACKS_SAMPLES=5 FROZEN=6 IS_AFTER=7 OTHER_RISK=8";
    private static final String FORBIDDEN = "\\b(throw|throws|try|catch|finally|synchronized|assert|import|package|"
        + "instanceof|native|volatile|transient|strictfp|yield|var|Object|Thread|Random|Exception|Runtime|"
        + "Collections|Optional|HashMap|Scanner)\\b|->|::|@|\\w+Exact\\b|System\\.(?!arraycopy\\b)"
        + "|(?<!private |public |protected |final )\\bstatic\\s*\\{";
    private static final int MOST_LINES = 60, MOST_FIELDS = 20, MOST_CLASSES = 12, MOST_PARAMETERS = 7;

    private static int wrong = 0;

    public static void main(String[] args) throws Exception {
        face();
        constants();
        privateNames();
        nestedClasses();
        String source = Files.readString(Path.of(args[0]));
        words(source);
        methods(source);
        System.out.println(wrong == 0 ? "language: the rules are kept" : "language: " + wrong + " wrong");
        if (wrong != 0) {
            System.exit(1);
        }
    }

    private static void fault(String what) {
        wrong++;
        System.out.println("language: " + what);
    }

    private static void face() {
        TreeSet<String> there = new TreeSet<>();
        for (Method m : StagedRollout.class.getDeclaredMethods()) {
            if (!Modifier.isPrivate(m.getModifiers())) {
                there.add(signature(m));
            }
        }
        if (!there.equals(new TreeSet<>(Set.of(FACE)))) {
            fault("the methods that can be seen are " + there);
        }
        int modifiers = StagedRollout.class.getModifiers();
        if (!Modifier.isPublic(modifiers) || !Modifier.isFinal(modifiers)) {
            fault("the class is not public and final");
        }
        boolean isOneMaker = StagedRollout.class.getDeclaredConstructors().length == 1;
        if (!isOneMaker || StagedRollout.class.getConstructors()[0].getParameterCount() != 0) {
            fault("there is not just one constructor, public and without arguments");
        }
    }

    private static String signature(Method m) {
        List<String> types = new ArrayList<>();
        for (Class<?> type : m.getParameterTypes()) {
            types.add(type.getName());
        }
        String before = Modifier.isPublic(m.getModifiers()) && !Modifier.isStatic(m.getModifiers()) ? "" : "odd ";
        return before + m.getReturnType().getName() + " " + m.getName() + "(" + String.join(",", types) + ")";
    }

    private static void constants() throws IllegalAccessException {
        TreeSet<String> there = new TreeSet<>();
        for (Field f : StagedRollout.class.getDeclaredFields()) {
            int modifiers = f.getModifiers();
            if (Modifier.isStatic(modifiers) && !Modifier.isFinal(modifiers)) {
                fault("a static field that is not final: " + f.getName());
            }
            if (Modifier.isPublic(modifiers) && Modifier.isStatic(modifiers)) {
                there.add(f.getName() + "=" + f.getInt(null));
            } else if (!Modifier.isPrivate(modifiers)) {
                fault("a field that can be seen: " + f.getName());
            }
        }
        if (!there.equals(new TreeSet<>(Set.of(CONSTANTS.split(" "))))) {
            fault("the constants are " + there);
        }
    }

    private static void privateNames() {
        TreeSet<String> taken = new TreeSet<>();
        for (String method : FACE) {
            taken.add(method.substring(method.indexOf(' ') + 1, method.indexOf('(')));
        }
        List<Class<?>> classes = new ArrayList<>(List.of(StagedRollout.class.getDeclaredClasses()));
        classes.add(StagedRollout.class);
        for (Class<?> c : classes) {
            for (Method m : c.getDeclaredMethods()) {
                boolean isFace = c == StagedRollout.class && Modifier.isPublic(m.getModifiers());
                if (!isFace && taken.contains(m.getName())) {
                    fault(c.getName() + " has a method " + m.getName() + " of its own");
                }
                if (m.getParameterCount() > MOST_PARAMETERS) {
                    fault(m + " has too many parameters");
                }
            }
        }
    }

    private static void nestedClasses() {
        Class<?>[] nested = StagedRollout.class.getDeclaredClasses();
        if (nested.length + 1 > MOST_CLASSES) {
            fault("too many classes");
        }
        for (Class<?> c : nested) {
            int modifiers = c.getModifiers();
            if (!Modifier.isStatic(modifiers) || Modifier.isPublic(modifiers) || Modifier.isProtected(modifiers)) {
                fault(c.getName() + " is not static, or can be seen");
            }
            int fields = 0;
            for (Field f : c.getDeclaredFields()) {
                fields += Modifier.isStatic(f.getModifiers()) ? 0 : 1;
            }
            if (fields > MOST_FIELDS) {
                fault(c.getName() + " has too many fields");
            }
        }
    }

    private static String withoutComments(String source) {
        return source.replaceAll("(?s)/\\*.*?\\*/", "").replaceAll("//[^\n]*", "");
    }

    private static void words(String source) {
        Matcher found = Pattern.compile(FORBIDDEN).matcher(withoutComments(source));
        while (found.find()) {
            fault("the source has: " + found.group());
        }
        for (int i = 0; i < source.length(); i++) {
            if (source.charAt(i) > 126) {
                fault("the source has the sign " + (int) source.charAt(i));
            }
        }
        Matcher loops = Pattern.compile("\\b(while|do)\\b").matcher(withoutComments(source));
        while (loops.find()) {
            fault("a loop without a counter: " + loops.group());
        }
    }

    /** Room is made by constructors alone, so that a run's calls take none. */
    private static void methods(String source) {
        Pattern head = Pattern.compile("^( {4}| {8})((?:public |private |static )*)(\\w+(?:\\[\\])? )?(\\w+)\\([^)]*\\) \\{$");
        TreeMap<Integer, String> classes = new TreeMap<>();
        String[] lines = source.split("\n");
        int begin = -1;
        String end = "";
        boolean isConstructor = false;
        for (int i = 0; i < lines.length; i++) {
            Matcher m = head.matcher(lines[i]);
            if (begin < 0 && m.matches()) {
                begin = i;
                end = m.group(1) + "}";
                isConstructor = m.group(3) == null;
                classes.put(i, m.group(4));
            } else if (begin >= 0 && lines[i].equals(end)) {
                if (i - begin + 1 > MOST_LINES) {
                    fault("the method of line " + (begin + 1) + " is too long");
                }
                begin = -1;
            }
            boolean makes = lines[i].matches(".*\\bnew \\w.*") && !lines[i].matches("\\s*(/?\\*|//).*");
            if (makes && (begin < 0 || !isConstructor)) {
                fault("line " + (i + 1) + " makes an object outside of a constructor");
            }
        }
        if (classes.size() < FACE.length) {
            fault("only " + classes.size() + " methods were found");
        }
    }
}
