import java.io.IOException;
import java.lang.reflect.Constructor;
import java.lang.reflect.Field;
import java.lang.reflect.Method;
import java.lang.reflect.Modifier;
import java.nio.file.Files;
import java.nio.file.Path;
import java.util.Set;
import java.util.TreeSet;

/** The class shows the document's face and nothing else, and keeps to the rules of LANGUAGE.md that a text shows. */
public final class FaceTest {
    private static final Set<String> FACE = Set.of(
            "int instrument(int)", "int note(int, int, boolean)", "int knob(int, int, int)", "int phase(int, int)",
            "int table(int, int, boolean)", "int block(int, int, int)", "int lend(int, int, boolean)",
            "boolean isLent(int, int)", "int of(int, int)", "long at(int, int)", "int put(int, int, int)",
            "int copy(int, int, int, int, int)", "int bind(int)", "int function(int, int)",
            "int play(int, int, int, int, int, int)", "boolean agree(int, int, int)", "int find(int, int)",
            "long next(int)", "int state()", "int count(int)",
            "CallWays2()",
            "int BAD", "int FULL", "int OWN", "int ZERO", "int NONE", "int KIND", "int INDEX", "int SIZE", "int STORE");

    public static void main(String[] args) throws IOException {
        faceIsTheDocuments();
        noPrivateMethodBearsAPublicName();
        constantsAreTheDocuments();
        sourceKeepsToTheLanguage();
        Checks.end();
    }

    private static void faceIsTheDocuments() {
        Checks.due("the class is public and final",
                Modifier.isPublic(CallWays2.class.getModifiers()) && Modifier.isFinal(CallWays2.class.getModifiers()), true);
        Set<String> seen = new TreeSet<>();
        for (Method m : CallWays2.class.getDeclaredMethods()) {
            if (!Modifier.isPrivate(m.getModifiers()) && !m.isSynthetic()) {
                seen.add(m.getReturnType() + " " + m.getName() + parameters(m.getParameterTypes()));
            }
        }
        for (Constructor<?> c : CallWays2.class.getDeclaredConstructors()) {
            seen.add(c.getName() + parameters(c.getParameterTypes()));
        }
        for (Field f : CallWays2.class.getDeclaredFields()) {
            if (!Modifier.isPrivate(f.getModifiers())) {
                seen.add(f.getType() + " " + f.getName());
            }
        }
        for (String member : FACE) {
            Checks.due("the face has " + member, seen.contains(member), true);
        }
        for (String member : seen) {
            Checks.due("the document has " + member, FACE.contains(member), true);
        }
    }

    private static String parameters(Class<?>[] types) {
        StringBuilder text = new StringBuilder("(");
        for (Class<?> type : types) {
            text.append(text.length() > 1 ? ", " : "").append(type);
        }
        return text.append(")").toString();
    }

    private static void noPrivateMethodBearsAPublicName() {
        for (Method m : CallWays2.class.getDeclaredMethods()) {
            if (Modifier.isPrivate(m.getModifiers())) {
                for (String member : FACE) {
                    Checks.due("private " + m.getName() + " bears a public name", member.contains(" " + m.getName() + "("), false);
                }
            }
        }
    }

    private static void constantsAreTheDocuments() {
        int[] constants = {CallWays2.BAD, CallWays2.FULL, CallWays2.OWN, CallWays2.ZERO, CallWays2.NONE,
            CallWays2.KIND, CallWays2.INDEX, CallWays2.SIZE, CallWays2.STORE};
        for (int i = 0; i < constants.length; i++) {
            Checks.due("constant " + i, constants[i], -1 - i);
        }
    }

    private static void sourceKeepsToTheLanguage() throws IOException {
        String source = Files.readString(Path.of("src/main/java/CallWays2.java"));
        for (String word : new String[] {"import ", "package ", "catch", "finally", "->", "::", "Math.", "Double.", "Float.",
            "synchronized", "assert "}) {
            Checks.due("the source uses " + word, source.contains(word), false);
        }
        Checks.due("signs beyond 127", source.chars().filter(c -> c > 127).count(), 0);
    }
}
