import java.lang.reflect.Constructor;
import java.lang.reflect.Field;
import java.lang.reflect.Method;
import java.lang.reflect.Modifier;
import java.nio.charset.StandardCharsets;
import java.nio.file.Files;
import java.nio.file.Path;
import java.util.ArrayList;
import java.util.Arrays;
import java.util.HashSet;
import java.util.List;
import java.util.Set;
import java.util.TreeSet;
import java.util.regex.Matcher;
import java.util.regex.Pattern;

/** The document's face and those rules of LANGUAGE.md that a look at the class and its text can find broken. */
public final class FaceTest {
    private static int wrong = 0;

    /** The face by what its methods may throw. */
    private static final String[] SILENT = {
        "int load()", "int loadError()", "int find()", "int runwayCount()", "int flightCount()",
        "int longerTriples()", "int now()", "int shift()", "long totalCost()", "float meanDelay()",
        "int lateCount()", "int pastNeighbor()", "int doneCount()", "int doneAt(int)", "boolean isSmooth()",
        "int neededShift()", "int balance()"};
    private static final String[] OF_INDEX = {
        "int nameByte(int,int)", "boolean isArrival(int)", "int classOf(int)", "int earliest(int)",
        "int target(int)", "int latest(int)", "int separation(int,int)", "int runwayOf(int)",
        "int assign(int,int)", "int cancel(int)", "int goAround(int)", "int stateOf(int)", "int timeOf(int)",
        "int placeOf(int)", "int firstComePlace(int)", "int plannedAt(int,int)", "int delay(int)",
        "boolean isLate(int)", "float costOf(int)", "long planCost(int)", "long firstComeCost(int)",
        "int allowedSequences(int)", "int equalSequences(int)", "int slack(int)", "int binding(int)",
        "int lastTime(int)", "int aroundCount(int)", "long costIfAssigned(int,int)", "int bestRunway(int)",
        "long aroundCost(int)", "int latestStart(int)"};
    private static final String[] OF_ARGUMENT = {
        "int appendByte(int)", "int wake(int,int)", "int advance(int)", "int setShift(int)",
        "int setWake(int,int,int)", "long costWithShift(int)", "int simulate(int,int,int,int)",
        "int saveSnapshot(int)", "int restoreSnapshot(int)"};
    private static final String[] OF_BOTH = {
        "int timeInserted(int,int,int)"};

    private static final String[] FORBIDDEN = {
        "->", "::", "import ", "try ", "catch", "finally", "synchronized", "assert ", "Exact(", "System.out",
        "System.nanoTime", "Math.random", "Thread", "NaN", "double", "Object"};

    /** What rule 4 lists of the library's classes, as far as the program may need it. */
    private static final Set<String> LIBRARY = Set.of(
        "System.arraycopy", "Arrays.copyOf", "Arrays.copyOfRange", "Arrays.fill", "Integer.bitCount",
        "Integer.compare", "Integer.max", "Integer.min", "Long.compare", "Long.max", "Long.min", "Math.abs",
        "Math.floorDiv", "Math.floorMod", "Math.max", "Math.min");

    private static void check(boolean holds, String what) {
        if (!holds) {
            wrong++;
            System.out.println(what);
        }
    }

    private static String signature(Method m) {
        List<String> types = new ArrayList<>();
        for (Class<?> type : m.getParameterTypes()) {
            types.add(type.getName());
        }
        StringBuilder thrown = new StringBuilder();
        for (Class<?> type : m.getExceptionTypes()) {
            thrown.append(" ").append(type.getSimpleName());
        }
        return m.getReturnType().getName() + " " + m.getName() + "(" + String.join(",", types) + ")" + thrown;
    }

    private static void addAll(Set<String> face, String[] signatures, String thrown) {
        for (String signature : signatures) {
            face.add(signature + thrown);
        }
    }

    public static void main(String[] args) throws Exception {
        Class<?> c = RunwaySequencer.class;
        check(Modifier.isPublic(c.getModifiers()) && Modifier.isFinal(c.getModifiers()), "the class is public final");
        methods(c);
        for (Constructor<?> k : c.getDeclaredConstructors()) {
            check(k.getParameterCount() == 0 && Modifier.isPublic(k.getModifiers()), "one public constructor");
        }
        Set<String> constants = new HashSet<>(Arrays.asList("NONE", "FULL", "WRONG_STATE", "NOT_ALLOWED"));
        for (Field f : c.getDeclaredFields()) {
            check(Modifier.isPrivate(f.getModifiers()) != constants.contains(f.getName()), "field " + f.getName());
        }
        fields(c);
        for (Class<?> inner : c.getDeclaredClasses()) {
            check(Modifier.isStatic(inner.getModifiers()), inner.getName() + " is static");
            fields(inner);
        }
        check(c.getDeclaredClasses().length <= 12, "at most twelve classes");
        source();
        System.out.println(wrong == 0 ? "the face and the rules hold" : wrong + " faults");
        if (wrong != 0) {
            System.exit(1);
        }
    }

    private static void methods(Class<?> c) {
        Set<String> want = new TreeSet<>();
        addAll(want, SILENT, "");
        addAll(want, OF_INDEX, " IndexOutOfBoundsException");
        addAll(want, OF_ARGUMENT, " IllegalArgumentException");
        addAll(want, OF_BOTH, " IndexOutOfBoundsException IllegalArgumentException");
        Set<String> got = new TreeSet<>();
        Set<String> publicNames = new HashSet<>();
        for (Method m : c.getDeclaredMethods()) {
            if (!Modifier.isPrivate(m.getModifiers())) {
                got.add(signature(m));
                publicNames.add(m.getName());
                check(Modifier.isPublic(m.getModifiers()) && !Modifier.isStatic(m.getModifiers()), m.getName());
            }
        }
        check(want.equals(got), "the face is " + got);
        List<Class<?>> all = new ArrayList<>(Arrays.asList(c.getDeclaredClasses()));
        all.add(c);
        for (Class<?> k : all) {
            for (Method m : k.getDeclaredMethods()) {
                check(k == c && Modifier.isPublic(m.getModifiers()) || !publicNames.contains(m.getName()),
                        k.getName() + "." + m.getName() + " bears a public method's name");
                check(m.getParameterCount() <= 7, m.getName() + " has too many parameters");
            }
        }
    }

    private static void fields(Class<?> c) {
        int own = 0;
        for (Field f : c.getDeclaredFields()) {
            if (Modifier.isStatic(f.getModifiers())) {
                check(Modifier.isFinal(f.getModifiers()), c.getName() + "." + f.getName() + " is not final");
            } else {
                own++;
            }
        }
        check(own <= 20, c.getName() + " has " + own + " fields");
    }

    private static void source() throws Exception {
        String path = System.getProperty("runway.source", "src/main/java/RunwaySequencer.java");
        String text = new String(Files.readAllBytes(Path.of(path)), StandardCharsets.UTF_8);
        for (String word : FORBIDDEN) {
            check(!text.contains(word), "the text has " + word);
        }
        Matcher used = Pattern.compile("\\b(System|Arrays|Integer|Long|Math)\\.\\w+").matcher(text);
        while (used.find()) {
            check(LIBRARY.contains(used.group()), used.group() + " is not in rule 4");
        }
        check(text.chars().allMatch(b -> b < 128), "the text has signs beyond 127");
        for (String line : text.split("\n")) {
            check(line.length() <= 120, "a long line: " + line);
        }
    }
}
