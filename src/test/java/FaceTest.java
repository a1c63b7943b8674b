import java.io.IOException;
import java.lang.reflect.Constructor;
import java.lang.reflect.Field;
import java.lang.reflect.Method;
import java.lang.reflect.Modifier;
import java.nio.file.Files;
import java.nio.file.Path;
import java.util.Arrays;
import java.util.Set;
import java.util.TreeSet;
import java.util.regex.Matcher;
import java.util.regex.Pattern;

/**
 * The public face: every member that the document writes, to the letter, and no other. Run in the
 * project's folder, beside which the document stands.
 */
public final class FaceTest {
    private static final Path DOCUMENT = Path.of("../shared/DOC.md");
    private static final Path SOURCE = Path.of("src/main/java/BellTowerPlanner.java");
    private static final Pattern SIGNATURE =
            Pattern.compile("## Promise \\d+: .*\\s+`(.*\\).*)`");

    private static final String[] FACE = {
        "int append(int,int,int,int,int) S", "int truncate(int) A", "int load() ",
        "int errorPosition() ", "int hang(int,int,int) SA", "int takeDown(int) SA",
        "int shift(int,int) SA", "int beamOf(int) SA", "int positionOf(int) SAN",
        "int torque(int) SA", "int bellAt(int,int) SA", "int freePositions(int,int) SA",
        "int bestPosition(int,int) SA", "int mirroredTorque(int) SA", "int mirroredBells(int) SA",
        "int setPlan(int,int,int) SA", "int clearPlan(int) SA", "int planConflicts() S",
        "int planUnbalanced() S", "int stepsToPlan() S", "int planStep(int) SA",
        "int startSwing(int,int,int) SA", "int stopSwing(int) SA", "int offset(int,int) SAN",
        "int gap(int,int,int) SAN", "int firstCollision() S", "int collidingBells() S",
        "int safeStart(int,int) SA", "int safeAmplitude(int) SA", "int strikes(int,int,int) SA",
        "int strikeTogether(int,int) SA", "int setChime(int,int,int) SA", "int clearChime(int) SA",
        "boolean isQuiet(int) SA", "int quietMinutes() S", "int longestLoud() S",
        "int soundsAt(int) SA", "int soundsPerDay(int) SA", "int nextSound(int) SA",
        "int busiestMinute() S", "int soundTogether(int,int) SA", "int leastDelay(int) SA",
        "int ropeLength(int) SA", "int fewestPieces() S", "int pieceOf(int) SA", "int waste() S",
        "int extraPiece() S", "int undo() S"
    };

    private FaceTest() {
    }

    public static void main(String[] args) throws IOException {
        asInTheDocument();
        Class<?> face = BellTowerPlanner.class;
        Check.same("the class is public and final", Modifier.PUBLIC | Modifier.FINAL,
                face.getModifiers());
        Check.same("NONE", -1, BellTowerPlanner.NONE);
        constructors(face);
        methods(face);
        fields(face);
        for (Class<?> nested : face.getDeclaredClasses()) {
            nested(face, nested);
        }
        Check.finish();
    }

    private static void asInTheDocument() throws IOException {
        String source = " " + Files.readString(SOURCE).replaceAll("\\s+", " ");
        String document = Files.readString(DOCUMENT);
        int begin = document.indexOf("```java") + "```java".length();
        String[] lines = document.substring(begin, document.indexOf("\n```\n", begin)).split("\n");
        int members = 0;
        for (String line : lines) {
            String due = " " + line.trim().replaceAll("\\);$", ") {").replaceAll("(throws .*);$", "$1 {");
            if (!line.isBlank() && !line.equals("}")) {
                Check.same("the source holds" + due, 1, source.contains(due) ? 1 : 0);
                members++;
            }
        }
        Check.same("lines of the face", FACE.length + 4, members);
        Matcher signatures = SIGNATURE.matcher(document);
        int promises = 0;
        while (signatures.find()) {
            String due = " public " + signatures.group(1) + " {";
            Check.same("the source holds" + due, 1, source.contains(due) ? 1 : 0);
            promises++;
        }
        Check.same("promises with a signature", FACE.length + 1, promises);
    }

    private static void constructors(Class<?> face) {
        Constructor<?>[] all = face.getDeclaredConstructors();
        Check.same("constructors", 1, all.length);
        Check.same("parameters of the constructor", 0, all[0].getParameterCount());
        Check.same("its modifiers", Modifier.PUBLIC, all[0].getModifiers());
    }

    private static void methods(Class<?> face) {
        Set<String> due = new TreeSet<>(Arrays.asList(FACE));
        for (Method method : face.getDeclaredMethods()) {
            if (!Modifier.isPrivate(method.getModifiers()) && !method.isSynthetic()) {
                Check.same(described(method) + " is due", 1, due.remove(described(method)) ? 1 : 0);
                Check.same(method + " modifiers", Modifier.PUBLIC, method.getModifiers());
            } else {
                isPrivateName(method);
            }
        }
        Check.same("missing methods: " + due, 0, due.size());
    }

    private static String described(Method method) {
        StringBuilder text = new StringBuilder(method.getReturnType() + " " + method.getName());
        String parameters = Arrays.toString(method.getParameterTypes());
        text.append('(').append(parameters.replaceAll("[\\[\\] ]", "")).append(") ");
        for (Class<?> thrown : method.getExceptionTypes()) {
            String name = thrown.getSimpleName();
            text.append(name.startsWith("No") ? 'N' : name.startsWith("IllegalS") ? 'S' : 'A');
        }
        return text.toString();
    }

    private static void isPrivateName(Method method) {
        for (String line : FACE) {
            boolean same = line.contains(" " + method.getName() + "(");
            Check.same(method + " bears the name of a public method", 0, same ? 1 : 0);
        }
    }

    private static void fields(Class<?> face) {
        for (Field field : face.getDeclaredFields()) {
            boolean constant = field.getName().equals("NONE");
            int due = constant ? Modifier.PUBLIC | Modifier.STATIC | Modifier.FINAL : 0;
            int got = field.getModifiers();
            boolean right = constant ? got == due : Modifier.isPrivate(got);
            Check.same(field + " has its modifiers", 1, right ? 1 : 0);
            staticIsFinal(field);
        }
    }

    private static void staticIsFinal(Field field) {
        boolean open = Modifier.isStatic(field.getModifiers())
                && !Modifier.isFinal(field.getModifiers());
        Check.same(field + " is static and not final", 0, open ? 1 : 0);
    }

    private static void nested(Class<?> face, Class<?> nested) {
        boolean shown = Modifier.isPublic(nested.getModifiers())
                || Modifier.isProtected(nested.getModifiers());
        Check.same(nested + " is shown", 0, shown ? 1 : 0);
        for (Method method : nested.getDeclaredMethods()) {
            isPrivateName(method);
            Check.same(method + " takes more than seven parameters", 0,
                    method.getParameterCount() > 7 ? 1 : 0);
        }
        int fields = 0;
        for (Field field : nested.getDeclaredFields()) {
            staticIsFinal(field);
            fields += Modifier.isStatic(field.getModifiers()) ? 0 : 1;
        }
        Check.same(nested + " has more than twenty fields", 0, fields > 20 ? 1 : 0);
        Check.same(nested + " is an inner class", 1,
                Modifier.isStatic(nested.getModifiers()) ? 1 : 0);
    }
}
