import java.lang.reflect.Constructor;
import java.lang.reflect.Field;
import java.lang.reflect.Method;
import java.lang.reflect.Modifier;
import java.nio.file.Files;
import java.nio.file.Path;
import java.util.Set;
import java.util.TreeSet;
import java.util.regex.Matcher;
import java.util.regex.Pattern;

/** The public face, and those rules of LANGUAGE.md that can be seen from outside; RulesTest has the others. */
public final class LanguageTest {
    private static final String[] FACE = {
        "int world(int)", "int sees(int,int,int,boolean,boolean)", "int blind(int)", "int real(int)",
        "int of(int,int)", "int reach(int,int)", "int feed(long)", "int end(int)", "int say(int)", "int fault()",
        "int saying(int,int)", "int truth(int)", "int holds(int)", "int event(int,int)",
        "int when(int,int,int,int,int)", "int hears(int,int,int,int,boolean)", "int happens(int,int)",
        "int word(int,int,int,int)", "int lay(int)", "int classes()", "int classOf(int)", "int depth(int,int)",
        "int melt()", "int keep()", "int stand(int)", "int same(int)", "int turn(int,int)", "int turns(int,int,int)",
        "int plan(int,int,int,int)", "int people(int)", "int call(int,int)", "int secrets(int)", "int fewest(int)",
        "int sheet(int,int,int)", "int write(int,int,int)", "int read(int,int,int,int)", "int undo()",
        "int count(int)"};
    private static final String[] CONSTANTS = {"BAD -1", "STATE -2", "FULL -3", "NONE -4"};
    private static final String[] FORBIDDEN = {
        "throw", "throws", "try", "catch", "finally", "synchronized", "assert", "protected", "volatile", "native",
        "Exception", "Error", "import", "package", "Thread", "Exact", "record", "var", "hashCode", "toString"};

    private static void face() throws ReflectiveOperationException {
        Set<String> found = new TreeSet<>();
        for (Method m : WhoKnows.class.getDeclaredMethods()) {
            if (!Modifier.isPrivate(m.getModifiers())) {
                StringBuilder s = new StringBuilder(m.getReturnType().getName() + " " + m.getName() + "(");
                for (Class<?> p : m.getParameterTypes()) {
                    s.append(s.charAt(s.length() - 1) == '(' ? "" : ",").append(p.getName());
                }
                found.add(s.append(")").toString());
                Check.due(m + " is public and no more", m.getModifiers(), Modifier.PUBLIC);
            }
        }
        Check.due("the methods are the face's " + found, found.equals(new TreeSet<>(Set.of(FACE))) ? 1 : 0, 1);
        Set<String> constants = new TreeSet<>();
        for (Field f : WhoKnows.class.getDeclaredFields()) {
            if (!Modifier.isPrivate(f.getModifiers())) {
                constants.add(f.getName() + " " + f.getInt(null));
                Check.due(f + "", f.getModifiers(), Modifier.PUBLIC | Modifier.STATIC | Modifier.FINAL);
            }
        }
        Check.due("the constants " + constants, constants.equals(new TreeSet<>(Set.of(CONSTANTS))) ? 1 : 0, 1);
        Constructor<?>[] made = WhoKnows.class.getDeclaredConstructors();
        Check.due("one constructor", made.length, 1);
        Check.due("it is public", made[0].getModifiers(), Modifier.PUBLIC);
        Check.due("the class", WhoKnows.class.getModifiers(), Modifier.PUBLIC | Modifier.FINAL);
    }

    private static void inside(Class<?> c, Set<String> faceNames) {
        int fields = 0;
        for (Field f : c.getDeclaredFields()) {
            boolean isStatic = Modifier.isStatic(f.getModifiers());
            fields += isStatic ? 0 : 1;
            Check.due(f + " is final if static", isStatic && !Modifier.isFinal(f.getModifiers()) ? 1 : 0, 0);
        }
        Check.due(c + " has some twenty fields at most: " + fields, fields <= 20 ? 1 : 0, 1);
        for (Method m : c.getDeclaredMethods()) {
            if (c != WhoKnows.class || Modifier.isPrivate(m.getModifiers())) {
                Check.due(m + " bears no name of the face", faceNames.contains(m.getName()) ? 1 : 0, 0);
            }
            Check.due(m + " is no lambda or bridge", m.isSynthetic() ? 1 : 0, 0);
        }
    }

    private static void classes() {
        Set<String> names = new TreeSet<>();
        for (String f : FACE) {
            names.add(f.substring(4, f.indexOf('(')));
        }
        inside(WhoKnows.class, names);
        Class<?>[] nested = WhoKnows.class.getDeclaredClasses();
        Check.due("some twelve classes at most: " + (1 + nested.length), 1 + nested.length <= 12 ? 1 : 0, 1);
        for (Class<?> c : nested) {
            inside(c, names);
            Check.due(c + " is static", Modifier.isStatic(c.getModifiers()) ? 1 : 0, 1);
            Check.due(c + " is not public", Modifier.isPublic(c.getModifiers()) ? 1 : 0, 0);
            Check.due(c + " holds no classes", c.getDeclaredClasses().length, 0);
        }
    }

    private static String withoutTexts(String source) {
        return source.replaceAll("(?s)/\\*.*?\\*/", "").replaceAll("//[^\n]*", "").replaceAll("\"[^\"\n]*\"", "\"\"");
    }

    private static void source() throws java.io.IOException {
        String source = Files.readString(Path.of("src/main/java/WhoKnows.java"));
        for (int i = 0; i < source.length(); i++) {
            if (source.charAt(i) > 126) {
                Check.due("a sign above 126 at " + i, source.charAt(i), 0);
            }
        }
        String code = withoutTexts(source);
        for (String word : FORBIDDEN) {
            Matcher m = Pattern.compile("\\b" + word + "\\b").matcher(code);
            Check.due("the word " + word, m.find() ? 1 : 0, 0);
        }
        for (String sign : new String[] {"->", "::", "@", "static {", "\" +", "+ \""}) {
            Check.due("the sign " + sign, code.contains(sign) ? 1 : 0, 0);
        }
    }

    public static void main(String[] args) throws Exception {
        face();
        classes();
        source();
        Check.end();
    }
}
