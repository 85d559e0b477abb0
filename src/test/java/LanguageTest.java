import java.lang.reflect.Field;
import java.lang.reflect.Member;
import java.lang.reflect.Method;
import java.lang.reflect.Modifier;
import java.nio.file.Files;
import java.nio.file.Path;
import java.util.ArrayList;
import java.util.Arrays;
import java.util.List;
import java.util.Set;
import java.util.TreeSet;
import java.util.regex.Matcher;
import java.util.regex.Pattern;

/** The document's face, and those rules of LANGUAGE.md that can be seen from outside or from the source's words. */
public final class LanguageTest {
    private static final Path SOURCE = Path.of("src/main/java/OneStageTwoPlays.java");
    private static final String FACE = "int sign(int) boolean end(int) int scenes() int rule() int scene(int,int) "
            + "int play(int,int) int sheet(int,int,int,int) int plays(int) int cut(int) int puts(int) int pause(int) "
            + "int evening() int undo() int change(int,int) int weave() int soonest(int) int both(int,int) "
            + "int within(int) int weaves() int turn(int) int over(int) int cuts(int) int clash() int mend() int spare() "
            + "int cheers(int) int who(int) int kings() int stand() int guard() int chance(int,int) int likely(int) "
            + "int rests(int) int lamps(int) int bow(int,int) int forget() int fits() int ask() int law() "
            + "int years(int,int) boolean keep(int) boolean again(int) int count(int) long row(int)";
    private static final String[] FORBIDDEN = {"\\btry\\b", "\\bcatch\\b", "\\bfinally\\b", "->", "::", "\\bassert\\b",
        "\\bsynchronized\\b", "\\bSystem\\.(?!arraycopy)", "\\bRandom\\b", "\\bThread\\b", "Exact\\(", "^import (?!java\\.util\\.(NoSuchElementException|ArrayList|List|Arrays);)",
        "^package", "@", "\\bObject\\b", "\\bstatic \\{", "\\bdouble\\b", "\\bfloat\\b", "[^\\x00-\\x7F]"};
    private static int wrong = 0;

    public static void main(String[] args) throws Exception {
        face();
        insides();
        words();
        shapes();
        System.out.println(wrong == 0 ? "language: all as due" : "language: " + wrong + " wrong");
        System.exit(wrong == 0 ? 0 : 1);
    }

    private static void due(boolean holds, String what) {
        if (!holds) {
            wrong++;
            System.out.println(what);
        }
    }

    private static void face() throws Exception {
        Class<?> c = OneStageTwoPlays.class;
        due(Modifier.isPublic(c.getModifiers()) && Modifier.isFinal(c.getModifiers()), "the class is not public and final");
        Set<String> found = new TreeSet<>();
        for (Method m : c.getDeclaredMethods()) {
            if (Modifier.isPrivate(m.getModifiers())) continue;
            StringBuilder told = new StringBuilder(m.getReturnType() + " " + m.getName() + "(");
            for (int k = 0; k < m.getParameterCount(); k++) told.append(k > 0 ? "," : "").append(m.getParameterTypes()[k]);
            found.add(told.append(")").toString());
            due(Modifier.isPublic(m.getModifiers()) && !Modifier.isStatic(m.getModifiers()), m + " is not public");
        }
        Set<String> want = new TreeSet<>(Arrays.asList(FACE.split(" (?=int|boolean|long)")));
        due(found.equals(want), "the face is " + found + ", due is " + want);
        due(c.getDeclaredConstructors().length == 1 && c.getConstructors().length == 1, "other constructors");
        for (Field f : c.getDeclaredFields()) {
            due(Modifier.isPrivate(f.getModifiers()) || f.getName().equals("NONE"), f + " is not private");
        }
        due(c.getField("NONE").getInt(null) == -1, "NONE is not -1");
    }

    private static void insides() {
        Set<String> names = new TreeSet<>();
        for (Method m : OneStageTwoPlays.class.getDeclaredMethods()) {
            if (Modifier.isPublic(m.getModifiers())) names.add(m.getName());
        }
        List<Class<?>> all = new ArrayList<>(List.of(OneStageTwoPlays.class.getDeclaredClasses()));
        all.add(OneStageTwoPlays.class);
        due(all.size() <= 12, all.size() + " classes");
        for (Class<?> c : all) {
            due(c == OneStageTwoPlays.class || Modifier.isStatic(c.getModifiers()) && !Modifier.isPublic(c.getModifiers()),
                    c + " is not a private or package-visible static one");
            long fields = Arrays.stream(c.getDeclaredFields()).filter(f -> !isConstant(f)).count();
            due(fields <= 20, c + " has " + fields + " fields");
            for (Field f : c.getDeclaredFields()) {
                due(!Modifier.isStatic(f.getModifiers()) || Modifier.isFinal(f.getModifiers()), f + " is static, not final");
            }
            for (Method m : c.getDeclaredMethods()) {
                due(m.getParameterCount() <= 7, m + " has too many parameters");
                due(Modifier.isPublic(m.getModifiers()) || !names.contains(m.getName()), m + " bears a name of the face");
            }
        }
    }

    private static boolean isConstant(Member f) {
        return Modifier.isStatic(f.getModifiers());
    }

    private static void words() throws Exception {
        List<String> lines = Files.readAllLines(SOURCE);
        for (int k = 0; k < lines.size(); k++) {
            String line = lines.get(k).replaceAll("//.*|/\\*\\*.*|^ +\\* .*|^ +\\*/", "");
            for (String bad : FORBIDDEN) {
                due(!Pattern.compile(bad).matcher(line).find(), "line " + (k + 1) + " has " + bad + ": " + line);
            }
            Matcher thrown = Pattern.compile("\\bthrow\\b(.*)").matcher(line);
            due(!thrown.find() || thrown.group(1).equals(" new NoSuchElementException();"), "line " + (k + 1) + ": " + line);
        }
    }

    private static void shapes() throws Exception {
        List<String> lines = Files.readAllLines(SOURCE);
        int start = -1;
        String indent = "";
        for (int k = 0; k < lines.size(); k++) {
            String line = lines.get(k);
            Matcher head = Pattern.compile("^( +)[a-zA-Z].*\\) (throws NoSuchElementException )?\\{$").matcher(line);
            boolean member = head.find() && (head.group(1).length() == 4 || head.group(1).length() == 8)
                    && !line.matches(" +(if|for|while|switch|else|do|return)\\b.*");
            if (start < 0 && member) {
                start = k;
                indent = head.group(1);
            } else if (start >= 0 && line.equals(indent + "}")) {
                due(k - start < 60, "a method of " + (k - start) + " lines: " + lines.get(start));
                start = -1;
            }
        }
    }
}
