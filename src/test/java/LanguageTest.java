import java.io.IOException;
import java.lang.reflect.Constructor;
import java.lang.reflect.Field;
import java.lang.reflect.Member;
import java.lang.reflect.Method;
import java.lang.reflect.Modifier;
import java.nio.file.Files;
import java.nio.file.Path;
import java.util.ArrayList;
import java.util.Arrays;
import java.util.Collections;
import java.util.List;
import java.util.regex.Matcher;
import java.util.regex.Pattern;

/** The rules of LANGUAGE.md that can be seen from outside: the face, words that are left out, names, lengths. */
public final class LanguageTest {
    private static final String FACE = "angers(int) as(int,int) become(int,int) bells(int) change(int,int,int) check(int)"
        + " cook(int,int,int) count(int) dead(int,int,int) dish(int,int,int) dishes(int) eat(int) feed(long,int) first(int)"
        + " forget(int,int) hunger(int) image() law(int,int,int,int,int) loose(int) marry(int,int)"
        + " move(int,int,int,int,int) needs(int,int,int) ofDead(int,int) ofDish(int,int) put(int,int,int) restore()"
        + " seed(int) serve(int,int) share(int,int,int) sheet(int,int,int) table(int,int) takes(int,int) tell(int)"
        + " text(int) then(int,int,int) thenHeat(int,int) told(int) trace(int) voice(int,int,int)";
    private static final String[] LEFT_OUT = {"throw", "throws", "try", "catch", "finally", "synchronized", "assert",
        "import", "package", "yield", "var", "Object", "System.out", "hashCode", "volatile", "native", "strictfp"};

    private LanguageTest() {
    }

    public static void main(String[] args) throws IOException {
        face();
        nested();
        words(Files.readString(Path.of("src/main/java/GhostTable.java")));
        Due.end();
    }

    private static void face() {
        List<String> found = new ArrayList<>();
        for (Method m : GhostTable.class.getDeclaredMethods()) {
            if (Modifier.isPublic(m.getModifiers())) {
                List<String> types = new ArrayList<>();
                for (Class<?> type : m.getParameterTypes()) {
                    types.add(type.getName());
                }
                found.add(m.getName() + "(" + String.join(",", types) + ")");
                Due.holds(m + " answers an int", m.getReturnType() == int.class && !Modifier.isStatic(m.getModifiers()));
            } else {
                Due.holds(m + " is private", Modifier.isPrivate(m.getModifiers()));
            }
        }
        Collections.sort(found);
        List<String> due = new ArrayList<>(Arrays.asList(FACE.split(" ")));
        Collections.sort(due);
        Due.holds("the face is " + due + " and not " + found, due.equals(found));
        int modifiers = GhostTable.class.getModifiers();
        Due.holds("public and final", Modifier.isPublic(modifiers) && Modifier.isFinal(modifiers));
        Constructor<?>[] constructors = GhostTable.class.getDeclaredConstructors();
        Due.is("constructors", constructors.length, 1);
        Due.is("public ones", GhostTable.class.getConstructors().length, 1);
        for (Field f : GhostTable.class.getDeclaredFields()) {
            Due.holds(f + " is private", Modifier.isPrivate(f.getModifiers()));
            Due.holds(f + " if static, is final", !Modifier.isStatic(f.getModifiers()) || isFinal(f));
        }
    }

    private static boolean isFinal(Member m) {
        return Modifier.isFinal(m.getModifiers());
    }

    private static void nested() {
        List<String> names = Arrays.asList(FACE.replaceAll("\\([^)]*\\)", "").split(" "));
        Class<?>[] classes = GhostTable.class.getDeclaredClasses();
        Due.holds("at most twelve classes", classes.length < 12);
        for (Class<?> c : classes) {
            Due.holds(c + " is static", Modifier.isStatic(c.getModifiers()));
            Due.holds(c + " is not public", !Modifier.isPublic(c.getModifiers()));
            for (Method m : c.getDeclaredMethods()) {
                Due.holds(m + " has its own name", !names.contains(m.getName()));
                Due.holds(m + " has at most seven parameters", m.getParameterCount() <= 7);
            }
            int fields = 0;
            for (Field f : c.getDeclaredFields()) {
                boolean constant = Modifier.isStatic(f.getModifiers());
                Due.holds(f + " if static, is final", !constant || isFinal(f));
                fields += constant ? 0 : 1;
            }
            Due.holds(c + " has some twenty fields", fields <= 20);
        }
        for (Method m : GhostTable.class.getDeclaredMethods()) {
            Due.holds(m + " if private, has its own name", Modifier.isPublic(m.getModifiers()) || !names.contains(m.getName()));
        }
    }

    private static void words(String source) {
        String code = source.replaceAll("(?s)/\\*.*?\\*/", "").replaceAll("//[^\n]*", "");
        for (String word : LEFT_OUT) {
            Matcher m = Pattern.compile("\\b" + Pattern.quote(word) + "\\b").matcher(code);
            Due.holds("no " + word, !m.find());
        }
        Due.holds("no lambda, no method reference", !code.contains("->") && !code.contains("::"));
        for (int i = 0; i < source.length(); i++) {
            char c = source.charAt(i);
            Due.holds("a plain sign at " + i, c == '\n' || c >= ' ' && c < 127);
        }
        shortMethods(source.split("\n"));
    }

    private static void shortMethods(String[] lines) {
        for (int i = 0; i < lines.length; i++) {
            Matcher head = Pattern.compile("( {4}| {8})[A-Za-z].*\\) \\{").matcher(lines[i]);
            if (head.matches()) {
                int end = i;
                while (end < lines.length && !lines[end].equals(head.group(1) + "}")) {
                    end++;
                }
                Due.holds("at most sixty lines from line " + (i + 1), end - i < 60);
            }
        }
    }
}
