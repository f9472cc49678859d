import java.io.IOException;
import java.lang.reflect.Constructor;
import java.lang.reflect.Field;
import java.lang.reflect.Member;
import java.lang.reflect.Method;
import java.lang.reflect.Modifier;
import java.nio.file.Files;
import java.nio.file.Path;
import java.util.ArrayList;
import java.util.List;
import java.util.TreeSet;
import java.util.regex.Matcher;
import java.util.regex.Pattern;

/**
 * The public face is the document's and no more, and what hides behind it keeps to rules 1, 2 and 5 of LANGUAGE.md; run
 * from the project's folder.
 */
final class FaceTest {
    private static final String[] FACE = {
        "int feed(int)", "int end(int)", "int text()", "int fault()", "int rule(int)", "int one(int, int)",
        "int alike(int)", "int turn(int, int, int)", "int teach(int, int)", "int calm(int, int)", "int seats(int)",
        "int price(int, int)", "int come(int)", "int leave(int)", "int board(int)", "int go(int)",
        "int ahead(int, int)", "int when(int)", "int blocks(int)", "int most(int)", "int sets(int)", "int fill(int)",
        "int let(int)", "int cheap(int)", "int send(int, int)", "int last(int)", "long odds(int, int)",
        "long mean(int, int)", "int see(int, boolean)", "int forget(int)", "int fits(int)",
        "int drift(int, int, int)", "int keep(int)", "int back(int)", "int sheet(int, int, int)",
        "int lay(int, int, int)", "int read(int, int, int, int)", "int torn()", "int count(int)"};
    private static final Due DUE = new Due();

    public static void main(String[] args) throws IOException {
        List<String> due = List.of(FACE);
        document(due);
        constants();
        List<String> open = new ArrayList<>();
        TreeSet<String> names = new TreeSet<>();
        for (Method m : UnlikeFerry.class.getDeclaredMethods()) {
            if (Modifier.isPublic(m.getModifiers())) {
                open.add(signature(m));
                names.add(m.getName());
            } else {
                hidden(m);
            }
        }
        for (String s : due) {
            DUE.is(s + " is there", open.contains(s) ? 1 : 0, 1);
        }
        DUE.is("methods", open.size(), due.size());
        DUE.is("names", names.size(), due.size());
        for (Field f : UnlikeFerry.class.getDeclaredFields()) {
            field(f);
        }
        Constructor<?>[] constructors = UnlikeFerry.class.getDeclaredConstructors();
        DUE.is("constructors", constructors.length, 1);
        DUE.is("its parameters", constructors[0].getParameterCount(), 0);
        DUE.is("public", Modifier.isPublic(constructors[0].getModifiers()) ? 1 : 0, 1);
        DUE.is("final", Modifier.isFinal(UnlikeFerry.class.getModifiers()) ? 1 : 0, 1);
        inside(names);
        DUE.finish("FaceTest");
    }

    /** The list above is the one that stands in the document, in its order. */
    private static void document(List<String> due) throws IOException {
        String page = Files.readString(Path.of("../shared/DOC.md"));
        Matcher line = Pattern.compile("    public (int|long) (\\w+)\\((.*?)\\);").matcher(page);
        int i = 0;
        while (line.find()) {
            String parameters = line.group(3).replaceAll("(int|boolean) \\w+", "$1");
            String told = line.group(1) + " " + line.group(2) + "(" + parameters + ")";
            DUE.is(told + " is the document's call " + i, i < due.size() && told.equals(due.get(i)) ? 1 : 0, 1);
            i++;
        }
        DUE.is("calls of the document", i, due.size());
    }

    private static void constants() {
        DUE.is("BAD", UnlikeFerry.BAD, -1);
        DUE.is("STATE", UnlikeFerry.STATE, -2);
        DUE.is("FULL", UnlikeFerry.FULL, -3);
        DUE.is("NONE", UnlikeFerry.NONE, -4);
    }

    private static String signature(Method m) {
        List<String> parameters = new ArrayList<>();
        for (Class<?> c : m.getParameterTypes()) {
            parameters.add(c.getName());
        }
        return m.getReturnType().getName() + " " + m.getName() + "(" + String.join(", ", parameters) + ")";
    }

    private static void hidden(Member m) {
        DUE.is(m.getName() + " is private", Modifier.isPrivate(m.getModifiers()) ? 1 : 0, 1);
        for (String s : FACE) {
            boolean same = s.substring(s.indexOf(' ') + 1, s.indexOf('(')).equals(m.getName());
            DUE.is(m.getName() + " bears a public name", m instanceof Method && same ? 1 : 0, 0);
        }
    }

    private static void field(Field f) {
        if (List.of("BAD", "STATE", "FULL", "NONE").contains(f.getName())) {
            int due = Modifier.PUBLIC | Modifier.STATIC | Modifier.FINAL;
            DUE.is(f.getName() + ", a constant", f.getModifiers(), due);
        } else {
            hidden(f);
        }
        DUE.is(f.getName() + ", static and not final",
            Modifier.isStatic(f.getModifiers()) && !Modifier.isFinal(f.getModifiers()) ? 1 : 0, 0);
    }

    private static void inside(TreeSet<String> names) {
        Class<?>[] classes = UnlikeFerry.class.getDeclaredClasses();
        DUE.is("more than twelve classes", classes.length > 11 ? 1 : 0, 0);
        for (Class<?> c : classes) {
            DUE.is(c.getName() + " is static", Modifier.isStatic(c.getModifiers()) ? 1 : 0, 1);
            DUE.is(c.getName() + " is public", Modifier.isPublic(c.getModifiers()) ? 1 : 0, 0);
            for (Method m : c.getDeclaredMethods()) {
                DUE.is(c.getName() + "." + m.getName() + " bears a public name", names.contains(m.getName()) ? 1 : 0, 0);
            }
            for (Field f : c.getDeclaredFields()) {
                boolean open = Modifier.isStatic(f.getModifiers()) && !Modifier.isFinal(f.getModifiers());
                DUE.is(c.getName() + "." + f.getName() + ", static and not final", open ? 1 : 0, 0);
            }
        }
    }
}
