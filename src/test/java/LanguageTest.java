import java.lang.reflect.Constructor;
import java.lang.reflect.Field;
import java.lang.reflect.Method;
import java.lang.reflect.Modifier;
import java.nio.file.Files;
import java.nio.file.Path;
import java.util.ArrayList;
import java.util.Arrays;
import java.util.List;
import java.util.TreeSet;
import java.util.regex.Matcher;
import java.util.regex.Pattern;

/** What can be seen of the rules of ../shared/LANGUAGE.md and of the document's face without running a call. */
public final class LanguageTest {
    private static int wrong = 0;

    private static void fault(String told) {
        wrong++;
        System.out.println(told);
    }

    private static void checkFace() {
        String face = "feed2 wipe0 town0 round1 near1 tool1 days2 may2 thing3 step4 thingOf3 turn2 change4 next3 run3 "
            + "spoils2 ready2 begun2 latest2 waits2 order3 orderOf2 clear0 taken3 best1 most1 chokes1 idle1 turned1 "
            + "roundFor2 nearFor2 chance2 seed1 hold2 as2 sheet3 write3 copy5 load1 judge2 image0 undo0 tear0 count1 status1";
        TreeSet<String> due = new TreeSet<>(Arrays.asList(face.split(" ")));
        TreeSet<String> names = new TreeSet<>();
        TreeSet<String> found = new TreeSet<>();
        for (Method m : ToolDays.class.getDeclaredMethods()) {
            if (Modifier.isPublic(m.getModifiers())) {
                found.add(m.getName() + m.getParameterCount());
                names.add(m.getName());
                if (m.getReturnType() != int.class || Modifier.isStatic(m.getModifiers())) fault("not an int of an object: " + m);
                for (Class<?> p : m.getParameterTypes()) if (p != int.class) fault("not an int: " + m);
            } else if (!Modifier.isPrivate(m.getModifiers()) && !m.isSynthetic()) {
                fault("rule 1: not private: " + m);
            }
        }
        if (!due.equals(found)) fault("the face is " + found + ", due is " + due);
        for (Field f : ToolDays.class.getDeclaredFields()) if (!Modifier.isPrivate(f.getModifiers())) fault("rule 1: " + f);
        for (Constructor<?> c : ToolDays.class.getDeclaredConstructors())
            if (!Modifier.isPublic(c.getModifiers()) || c.getParameterCount() != 0) fault("rule 1: " + c);
        if (!Modifier.isFinal(ToolDays.class.getModifiers())) fault("rule 1: the class isn't final");
        checkClasses(names);
    }

    private static void checkClasses(TreeSet<String> faceNames) {
        List<Class<?>> classes = new ArrayList<>(Arrays.asList(ToolDays.class.getDeclaredClasses()));
        if (classes.size() + 1 > 12) fault("rule 11: too many classes: " + classes);
        classes.add(ToolDays.class);
        for (Class<?> c : classes) {
            if (c != ToolDays.class && !Modifier.isStatic(c.getModifiers())) fault("rule 2: " + c);
            int fields = 0;
            for (Field f : c.getDeclaredFields()) {
                if (!Modifier.isStatic(f.getModifiers())) fields++;
                else if (!Modifier.isFinal(f.getModifiers())) fault("rule 5: " + f);
            }
            if (fields > 20) fault("rule 11: " + fields + " fields: " + c);
            for (Method m : c.getDeclaredMethods()) {
                if (m.getParameterCount() > 7) fault("rule 11: " + m);
                if (!Modifier.isPublic(m.getModifiers()) && faceNames.contains(m.getName())) fault("rule 1: " + m);
            }
        }
    }

    private static void checkSource() throws Exception {
        String source = Files.readString(Path.of("src/main/java/ToolDays.java"));
        for (char c : source.toCharArray()) if (c > 127) fault("rule 4: a sign beyond 127");
        String code = source.replaceAll("(?s)/\\*.*?\\*/", "").replaceAll("//[^\n]*", "");
        String bare = code.replaceAll("\"[^\"\n]*\"", "\"\"");
        String[] words = {"throw", "throws", "try", "catch", "finally", "synchronized", "assert", "import", "package",
            "volatile", "native", "var", "yield", "Object", "Random", "Thread", "Exact", "protected"};
        for (String w : words) if (Pattern.compile("\\b" + w + "\\b").matcher(bare).find()) fault("a word that is ruled out: " + w);
        for (String s : new String[] {"->", "::", "@", "\"\" +", "+ \"\"", "Exact("}) if (bare.contains(s)) fault("ruled out: " + s);
        Matcher calls = Pattern.compile("\\b(System|Math|Integer|Long|Arrays)\\.(\\w+)").matcher(bare);
        while (calls.find()) {
            if (!Arrays.asList("System.arraycopy", "Math.min", "Math.max", "Integer.bitCount").contains(calls.group())) fault("rule 4: " + calls.group());
        }
        checkLengths(bare);
    }

    private static void checkLengths(String bare) {
        String[] lines = bare.split("\n");
        int begin = -1;
        String indent = "";
        for (int k = 0; k < lines.length; k++) {
            Matcher head = Pattern.compile("^( {4}| {8})[a-zA-Z].*\\) \\{$").matcher(lines[k]);
            if (begin < 0 && head.find()) {
                begin = k;
                indent = head.group(1);
            } else if (begin >= 0 && lines[k].equals(indent + "}")) {
                if (k - begin + 1 > 60) fault("rule 11: a long method: " + lines[begin]);
                begin = -1;
            }
        }
    }

    public static void main(String[] args) throws Exception {
        checkFace();
        checkSource();
        System.out.println(wrong == 0 ? "the source keeps to the rules that can be seen" : wrong + " faults of the language");
        if (wrong != 0) System.exit(1);
    }
}
