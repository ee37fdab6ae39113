import java.io.IOException;
import java.lang.reflect.Constructor;
import java.lang.reflect.Field;
import java.lang.reflect.Method;
import java.lang.reflect.Modifier;
import java.nio.file.Files;
import java.nio.file.Path;
import java.util.List;
import java.util.Set;
import java.util.TreeSet;
import java.util.regex.Matcher;
import java.util.regex.Pattern;

/** The face of the class, and those rules of LANGUAGE.md that its text and its members show. Runs in the project's folder. */
public final class LanguageTest {
    private static final Path SOURCE = Path.of("src/main/java/WoolBridge.java");
    private static final String[] FORBIDDEN = {
        "\\b(throw|throws|try|catch|synchronized|assert|import|package|protected)\\b", "->", "::", "\\w+Exact\\b",
        "\\bstatic\\s*\\{", "\\b(hashCode|toString)\\b", "[^\\x00-\\x7f]"};
    private static final Pattern METHOD = Pattern.compile(
        "( +)(?:public |private |static )*(?:([\\w\\[\\]]+) )?(?!(?:if|for|while|switch)\\b)\\w+\\(.*\\) \\{");
    private static final int METHOD_LINES_MOST = 60;
    private static final Set<String> FACE = new TreeSet<>(Set.of(
        "int type(int)", "int clear()", "int gorge()", "int person(int,int)", "int row(int,int)", "int crosses(int)",
        "int turnsBack()", "int drops(int)", "int draws(int)", "int rains(int)", "int year()", "int undo()",
        "int now(int)", "int order(int,int)", "int lastOne()", "int crossings(int)", "int over(int)",
        "int mend(int,int)", "int odds(int,int,int,int)", "int plumbs(int,int)", "int forget()", "int drew(int)",
        "int night(int)", "int mark(int,int)", "int keep(int)", "int back(int)", "int count(int)", "long trace()"));
    private static final Set<String> CONSTANTS = new TreeSet<>(Set.of("BAD", "STATE", "FULL", "NONE", "NO"));

    public static void main(String[] args) throws IOException {
        theText(Files.readString(SOURCE));
        theMethods(Files.readAllLines(SOURCE));
        theFace();
        theClassesInside();
        Check.end();
    }

    private static void theText(String source) {
        String code = source.replaceAll("(?s)/\\*.*?\\*/|//[^\\n]*", "");
        for (String forbidden : FORBIDDEN) {
            Matcher matcher = Pattern.compile(forbidden).matcher(code);
            while (matcher.find()) {
                Check.due("'" + matcher.group() + "' in the text", 1, 0);
            }
        }
    }

    private static void theMethods(List<String> lines) {
        int found = 0;
        for (int i = 0; i < lines.size(); i++) {
            Matcher header = METHOD.matcher(lines.get(i));
            if (header.matches()) {
                found++;
                List<String> body = lines.subList(i + 1, i + lines.subList(i, lines.size()).indexOf(header.group(1) + "}"));
                theMethod(lines.get(i).trim(), body, header.group(2) == null);
            }
        }
        Check.due("methods that were looked at, as many as there are calls at least", Math.min(FACE.size(), found), FACE.size());
    }

    /** What a run makes is counted, so all is made in constructors and used again. */
    private static void theMethod(String header, List<String> body, boolean constructor) {
        Check.due("lines of " + header, Math.max(METHOD_LINES_MOST, body.size()), METHOD_LINES_MOST);
        Pattern making = Pattern.compile("\\b(new|clone|copyOf|copyOfRange)\\b");
        boolean makes = body.stream().anyMatch(line -> making.matcher(line).find());
        Check.due("an object made by " + header, makes && !constructor ? 1 : 0, 0);
    }

    private static void theFace() {
        Check.due("public and final", WoolBridge.class.getModifiers(), Modifier.PUBLIC | Modifier.FINAL);
        Set<String> shown = new TreeSet<>();
        Set<String> shownNames = new TreeSet<>();
        for (Method method : WoolBridge.class.getDeclaredMethods()) {
            if (!Modifier.isPrivate(method.getModifiers())) {
                String whole = method.toString();
                shown.add(whole.replaceAll("^public (?:final )?|WoolBridge\\.", ""));
                shownNames.add(method.getName());
            }
        }
        Check.due("the face " + shown, shown.equals(FACE) ? 1 : 0, 1);
        hiddenNames(WoolBridge.class, shownNames);
        Set<String> constants = new TreeSet<>();
        for (Field field : WoolBridge.class.getDeclaredFields()) {
            if (!Modifier.isPrivate(field.getModifiers())) {
                constants.add(field.getName());
            }
        }
        Check.due("the constants " + constants, constants.equals(CONSTANTS) ? 1 : 0, 1);
        Constructor<?>[] constructors = WoolBridge.class.getDeclaredConstructors();
        Check.due("constructors", constructors.length, 1);
        Check.due("of nothing", constructors[0].getParameterCount(), 0);
    }

    private static void hiddenNames(Class<?> owner, Set<String> shownNames) {
        for (Method method : owner.getDeclaredMethods()) {
            boolean hidden = owner != WoolBridge.class || Modifier.isPrivate(method.getModifiers());
            if (hidden && shownNames.contains(method.getName())) {
                Check.due("a hidden method with a public one's name: " + method, 1, 0);
            }
            if (method.getParameterCount() > 7) {
                Check.due("too many parameters: " + method, method.getParameterCount(), 7);
            }
        }
        for (Class<?> inside : owner.getDeclaredClasses()) {
            hiddenNames(inside, shownNames);
        }
    }

    private static void theClassesInside() {
        Class<?>[] inside = WoolBridge.class.getDeclaredClasses();
        Check.due("at most twelve classes", Math.max(12, inside.length + 1), 12);
        fieldsOf(WoolBridge.class);
        for (Class<?> one : inside) {
            int modifiers = one.getModifiers();
            boolean open = Modifier.isPublic(modifiers) || Modifier.isProtected(modifiers);
            Check.due("static, not public: " + one, Modifier.isStatic(modifiers) && !open ? 1 : 0, 1);
            fieldsOf(one);
        }
    }

    private static void fieldsOf(Class<?> owner) {
        int own = 0;
        for (Field field : owner.getDeclaredFields()) {
            boolean isStatic = Modifier.isStatic(field.getModifiers());
            own += isStatic ? 0 : 1;
            Check.due("static fields are final: " + field, isStatic && !Modifier.isFinal(field.getModifiers()) ? 1 : 0, 0);
        }
        Check.due("at most twenty fields in " + owner, Math.max(20, own), 20);
    }
}
