import java.lang.reflect.Constructor;
import java.lang.reflect.Field;
import java.lang.reflect.Method;
import java.lang.reflect.Modifier;
import java.nio.file.Files;
import java.nio.file.Path;
import java.util.ArrayList;
import java.util.Arrays;
import java.util.List;
import java.util.Set;
import java.util.TreeSet;
import java.util.regex.Pattern;

/** The face, the classes inside and the words that LANGUAGE.md rules out; RulesTest looks at the rest of its rules. */
public final class LanguageTest {
    private static final String FACE = "write(int) wipe() fault() inn() quill(int,int) blot(int) slip(int) guest(int,int) "
            + "bears(int) tell(int) give(int,int) undo() would(int,int) coins(int,int) shortest(int,int,int) "
            + "shortestAt(int,int,int,int) cut(int) chosen(int,boolean) round(int) kinds(int) odds(int,int,int) "
            + "mean(int,int) toGive(int) rests(int,int,int) see(int,boolean) seeCoins(int,int) unsee() which() "
            + "likely(int,boolean) seed(long) nights(int) keep(int) again(int) count(int)";

    private static final String[] BANNED = {
        "throw", "throws", "try", "catch", "finally", "synchronized", "assert", "import", "package", "->", "::", "Object",
        "double", "float", "protected", "volatile", "transient", "native", "hashCode", "toString", "Exact", "var", "static {"};

    private final Check check = new Check();

    public static void main(String[] args) throws Exception {
        LanguageTest test = new LanguageTest();
        test.face();
        test.nested();
        String code = withoutComments(Files.readString(Path.of(args[0])));
        test.words(code);
        test.check.end("LanguageTest");
    }

    private void isTrue(String what, boolean so) {
        check.due(what, so ? 1 : 0, 1);
    }

    private void face() {
        Set<String> want = new TreeSet<>(Arrays.asList(FACE.split(" ")));
        Set<String> got = new TreeSet<>();
        for (Method m : SupperTales.class.getDeclaredMethods()) {
            if (Modifier.isPrivate(m.getModifiers())) {
                continue;
            }
            isTrue(m + " is public and no more", m.getModifiers() == Modifier.PUBLIC);
            isTrue(m + " answers an int (seed a long)", m.getReturnType() == (m.getName().equals("seed") ? long.class : int.class));
            List<String> types = new ArrayList<>();
            for (Class<?> type : m.getParameterTypes()) {
                types.add(type.getName());
            }
            got.add(m.getName() + "(" + String.join(",", types) + ")");
        }
        isTrue("the face is " + want + ", not " + got, want.equals(got));
        Constructor<?>[] makers = SupperTales.class.getDeclaredConstructors();
        isTrue("one constructor", makers.length == 1 && makers[0].getParameterCount() == 0);
        isTrue("public and final", SupperTales.class.getModifiers() == (Modifier.PUBLIC | Modifier.FINAL));
        Set<String> constants = new TreeSet<>();
        for (Field f : SupperTales.class.getDeclaredFields()) {
            if (!Modifier.isPrivate(f.getModifiers())) {
                constants.add(f.getName());
            }
        }
        isTrue("the constants, not " + constants, constants.toString().equals("[FULL, NONE, OUTSIDE, STATE, UNKNOWN]"));
    }

    private void nested() {
        Set<String> names = new TreeSet<>();
        for (String method : FACE.split(" ")) {
            names.add(method.substring(0, method.indexOf('(')));
        }
        List<Class<?>> classes = new ArrayList<>(Arrays.asList(SupperTales.class.getDeclaredClasses()));
        isTrue("some twelve classes at most", classes.size() < 12);
        for (Class<?> c : classes) {
            isTrue(c + " is static", Modifier.isStatic(c.getModifiers()));
            isTrue(c + " is not public", !Modifier.isPublic(c.getModifiers()));
        }
        classes.add(SupperTales.class);
        for (Class<?> c : classes) {
            int fields = 0;
            for (Field f : c.getDeclaredFields()) {
                fields += Modifier.isStatic(f.getModifiers()) ? 0 : 1;
                isTrue(f + ": static fields are final", !Modifier.isStatic(f.getModifiers()) || Modifier.isFinal(f.getModifiers()));
            }
            isTrue(c + " has some twenty fields at most", fields <= 20);
            for (Method m : c.getDeclaredMethods()) {
                boolean own = c == SupperTales.class && Modifier.isPublic(m.getModifiers());
                isTrue(m + " bears no public name", own || !names.contains(m.getName()));
            }
        }
    }

    private void words(String code) {
        for (String word : BANNED) {
            String pattern = Character.isLetter(word.charAt(0)) ? "\\b" + Pattern.quote(word) + "\\b" : Pattern.quote(word);
            isTrue("no " + word, !Pattern.compile(pattern).matcher(code).find());
        }
    }

    private static String withoutComments(String code) {
        return code.replaceAll("(?s)/\\*.*?\\*/", "").replaceAll("//[^\n]*", "");
    }
}
