import java.io.IOException;
import java.lang.reflect.Constructor;
import java.lang.reflect.Field;
import java.lang.reflect.Method;
import java.lang.reflect.Modifier;
import java.nio.file.Files;
import java.nio.file.Path;
import java.util.List;
import java.util.TreeSet;
import java.util.regex.Matcher;
import java.util.regex.Pattern;

/** The class shows the document's face and nothing else, and keeps what can be seen of it from outside. */
public final class FaceTest {
    private static final String INDEX = "IndexOutOfBoundsException";
    private static final String ARGUMENT = "IllegalArgumentException";
    private static final String STATE = "IllegalStateException";
    private static final String ELEMENT = "NoSuchElementException";
    private static final String[] FACE = {
        "int feed(int,int,int,int,int)", "boolean end(int)",
        "int hall() " + ARGUMENT + " UnsupportedOperationException", "int law() " + ARGUMENT, "int fault()",
        "int number(int,int) " + INDEX, "int person(int,int) " + INDEX + " " + ELEMENT, "int man(int) " + INDEX,
        "int middle(int,int) " + INDEX + " " + STATE, "int goes(int,int) " + INDEX,
        "int tell(int,int,int) " + INDEX + " " + ARGUMENT, "int rule(int,int) " + INDEX,
        "boolean stubborn(int,boolean) " + INDEX, "int leave(int) " + INDEX, "int days(int) " + ARGUMENT,
        "int ahead(int,int,int) " + INDEX + " " + ARGUMENT, "int settles()", "int round()",
        "int fewest(int,int) " + INDEX + " " + ARGUMENT + " " + STATE, "int rules(int,int) " + INDEX + " " + ARGUMENT,
        "int moves(int,int,boolean) " + INDEX, "int sham(int,int) " + INDEX, "int honest(int) " + INDEX,
        "int gainers(int) " + INDEX, "boolean halves(int) " + INDEX, "int near(int,boolean) " + INDEX,
        "int before(int,int,int,boolean) " + INDEX + " " + ARGUMENT, "int sizes(int,int) " + INDEX + " " + ARGUMENT,
        "int fits(int,int,int) " + INDEX + " " + ARGUMENT, "int shoe(int,int) " + INDEX + " " + ARGUMENT,
        "int pull(int,int,int) " + INDEX + " " + ARGUMENT,
        "int samples(int,int,int,boolean) " + INDEX + " " + ARGUMENT, "int nearest()", "int hates(int) " + ARGUMENT,
        "int twins()", "int village(int) " + ARGUMENT, "int majority(int,int) " + INDEX + " " + ARGUMENT,
        "int rank(int,int) " + INDEX, "int range(int) " + INDEX, "int trial(int,int) " + INDEX + " " + ARGUMENT,
        "int span(int,int,boolean) " + INDEX + " " + ARGUMENT, "int led(int,int) " + INDEX, "int steady()",
        "int log(int,int) " + ELEMENT, "int seed(int)", "boolean undo()", "void image()", "boolean back()",
        "int count(int)"};

    private static int wrong = 0;

    private static void need(boolean so, String what) {
        if (!so) {
            wrong++;
            System.out.println("not so: " + what);
        }
    }

    private static String shape(Method m) {
        StringBuilder b = new StringBuilder(m.getReturnType().getSimpleName()).append(' ').append(m.getName()).append('(');
        for (int i = 0; i < m.getParameterCount(); i++) {
            b.append(i == 0 ? "" : ",").append(m.getParameterTypes()[i].getSimpleName());
        }
        b.append(')');
        for (Class<?> e : m.getExceptionTypes()) {
            b.append(' ').append(e.getSimpleName());
        }
        return b.toString();
    }

    private static boolean isPrivate(int modifiers) {
        return Modifier.isPrivate(modifiers);
    }

    private static void face() {
        TreeSet<String> due = new TreeSet<>();
        TreeSet<String> names = new TreeSet<>();
        for (String m : FACE) {
            due.add(m);
            names.add(m.replaceAll("^\\w+ (\\w+)\\(.*$", "$1"));
        }
        TreeSet<String> got = new TreeSet<>();
        for (Method m : MeanMan.class.getDeclaredMethods()) {
            if (Modifier.isPublic(m.getModifiers())) {
                got.add(shape(m));
            } else {
                need(isPrivate(m.getModifiers()), m + " is private");
                need(!names.contains(m.getName()), m + " has a name of its own");
            }
        }
        need(got.equals(due), "the public methods are those of the document, but " + got);
        for (Field f : MeanMan.class.getDeclaredFields()) {
            need(isPrivate(f.getModifiers()) || f.getName().equals("NONE"), f + " is private");
            need(!Modifier.isStatic(f.getModifiers()) || Modifier.isFinal(f.getModifiers()), f + " is final");
        }
        for (Constructor<?> c : MeanMan.class.getDeclaredConstructors()) {
            need(Modifier.isPublic(c.getModifiers()) && c.getParameterCount() == 0, c + " is the public one");
        }
        need(Modifier.isFinal(MeanMan.class.getModifiers()), "the class is final");
    }

    /** The list above is the document's, which may have been written anew. */
    private static void document() throws IOException {
        Path place = Path.of("../shared/DOC.md");
        if (!Files.isRegularFile(place)) {
            System.out.println("there is no document here, so the face was not looked up");
            return;
        }
        Pattern shown = Pattern.compile("(?m)^    public (\\w+ \\w+)\\(([^)]*)\\)(?: throws ([^;]*))?;$");
        Matcher m = shown.matcher(Files.readString(place));
        TreeSet<String> due = new TreeSet<>();
        while (m.find()) {
            String taken = m.group(2).replaceAll("(\\w+) \\w+", "$1").replace(" ", "");
            String thrown = m.group(3) == null ? "" : " " + m.group(3).replace(",", "");
            due.add(m.group(1) + "(" + taken + ")" + thrown);
        }
        need(due.equals(new TreeSet<>(List.of(FACE))), "the list of this test is the document's face, but " + due);
        need(MeanMan.NONE == -1, "NONE is -1");
    }

    private static void inside() {
        Class<?>[] inside = MeanMan.class.getDeclaredClasses();
        need(inside.length <= 12, "there are at most twelve classes inside");
        for (Class<?> c : inside) {
            need(Modifier.isStatic(c.getModifiers()) && isPrivate(c.getModifiers()), c + " is private and static");
            int fields = 0;
            for (Field f : c.getDeclaredFields()) {
                fields += Modifier.isStatic(f.getModifiers()) ? 0 : 1;
            }
            need(fields <= 20, c + " has at most twenty fields");
            for (Method m : c.getDeclaredMethods()) {
                need(m.getParameterCount() <= 7, m + " takes at most seven");
            }
        }
    }

    public static void main(String[] args) throws IOException {
        document();
        face();
        inside();
        System.out.println(wrong == 0 ? "the face is the document's" : wrong + " things are not as the document has them");
        if (wrong != 0) {
            System.exit(1);
        }
    }
}
