import java.lang.reflect.Constructor;
import java.lang.reflect.Field;
import java.lang.reflect.Method;
import java.lang.reflect.Modifier;
import java.nio.file.Files;
import java.nio.file.Path;
import java.util.ArrayList;
import java.util.List;
import java.util.Set;
import java.util.TreeSet;
import java.util.regex.Matcher;
import java.util.regex.Pattern;

/** The public face, and what can be seen from outside of the rules of LANGUAGE.md. */
public final class LanguageTests {
    private static final String[] FACE = {
        "boolean day(int)", "int tell(int,int,int,int,int,int,int)", "int mend(int,int,int,int,int,int,int)",
        "int take(int,int,int)", "int happening(int,int)", "int number(int,int)", "int count(int)", "int seen(int)",
        "long sum(int,int,int,int)", "int state(int,int,int)", "int view(int,int)", "int read(int,int)",
        "int up(int,int)", "long at(int,int)", "int lead(int,int,int)", "int doing()", "int leg(int,int,int)",
        "boolean go(int)", "int step(int)", "int ends(int,int)", "int in(int,int,int,int,int,int)", "int latest(int)",
        "int check(int,int,int)",
    };
    private static final String[] BANNED = {
        "\\bthrow\\b", "\\bthrows\\b", "\\btry\\b", "\\bcatch\\b", "\\bsynchronized\\b", "\\bassert\\b", "->", "::",
        "\\bimport\\b", "\\bpackage\\b", "\\bprotected\\b", "\\bThread\\b", "\\bRandom\\b", "\\bSystem\\b",
        "\\w+Exact\\b", "\\bObject\\b", "\\bhashCode\\b", "\\btoString\\b", "\\bwhile\\s*\\(\\s*true", "for\\s*\\(;;",
    };

    private static int wrong = 0;

    public static void main(String[] args) throws Exception {
        faceIsTheDocuments();
        for (Class<?> inside : ToldHouse.class.getDeclaredClasses()) {
            insideIsAsAsked(inside);
        }
        holds("at most twelve classes", ToldHouse.class.getDeclaredClasses().length < 12);
        String source = Files.readString(Path.of("src/main/java/ToldHouse.java"));
        sourceIsAsAsked(withoutComments(source));
        System.out.println(wrong == 0 ? "the language is kept" : wrong + " rules are not kept");
        if (wrong != 0) {
            System.exit(1);
        }
    }

    private static void holds(String what, boolean held) {
        if (!held) {
            wrong++;
            System.out.println("not so: " + what);
        }
    }

    private static String form(Method m) {
        List<String> parameters = new ArrayList<>();
        for (Class<?> p : m.getParameterTypes()) {
            parameters.add(p.getName());
        }
        return m.getReturnType().getName() + " " + m.getName() + "(" + String.join(",", parameters) + ")";
    }

    private static void faceIsTheDocuments() throws Exception {
        Set<String> open = new TreeSet<>();
        Set<String> hidden = new TreeSet<>();
        Set<String> names = new TreeSet<>();
        for (Method m : ToldHouse.class.getDeclaredMethods()) {
            if (Modifier.isPrivate(m.getModifiers())) {
                hidden.add(m.getName());
            } else {
                open.add(form(m));
                names.add(m.getName());
                holds(m + " is public, of an object", m.getModifiers() == Modifier.PUBLIC);
            }
            holds(m + " takes at most seven", m.getParameterCount() <= 7);
        }
        holds("the face's methods are the document's: " + open, open.equals(new TreeSet<>(List.of(FACE))));
        hidden.retainAll(names);
        holds("no private method bears a public one's name: " + hidden, hidden.isEmpty());
        Constructor<?>[] constructors = ToldHouse.class.getDeclaredConstructors();
        holds("one constructor", constructors.length == 1 && constructors[0].getParameterCount() == 0
            && constructors[0].getModifiers() == Modifier.PUBLIC);
        holds("the class is public and final", ToldHouse.class.getModifiers() == (Modifier.PUBLIC | Modifier.FINAL));
        int fields = 0;
        for (Field f : ToldHouse.class.getDeclaredFields()) {
            boolean isNone = f.getName().equals("NONE");
            holds(f + " is private, but NONE", isNone == Modifier.isPublic(f.getModifiers())
                && (isNone || Modifier.isPrivate(f.getModifiers())));
            holds(f + ", being static, is final", !Modifier.isStatic(f.getModifiers()) || Modifier.isFinal(f.getModifiers()));
            fields += Modifier.isStatic(f.getModifiers()) ? 0 : 1;
        }
        holds("some twenty fields", fields <= 20);
        holds("NONE is an int", ToldHouse.class.getField("NONE").getType() == int.class);
    }

    private static void insideIsAsAsked(Class<?> inside) {
        holds(inside + " is static and private", Modifier.isStatic(inside.getModifiers())
            && Modifier.isPrivate(inside.getModifiers()));
        Set<String> names = new TreeSet<>();
        for (String method : FACE) {
            names.add(method.substring(method.indexOf(' ') + 1, method.indexOf('(')));
        }
        for (Method m : inside.getDeclaredMethods()) {
            holds(m + " bears no public one's name", !names.contains(m.getName()));
            holds(m + " takes at most seven", m.getParameterCount() <= 7);
        }
        for (Constructor<?> c : inside.getDeclaredConstructors()) {
            holds(c + " takes at most seven", c.getParameterCount() <= 7);
        }
        holds(inside + " has some twenty fields", inside.getDeclaredFields().length <= 20);
    }

    private static String withoutComments(String source) {
        return source.replaceAll("(?s)/\\*.*?\\*/", "").replaceAll("//[^\n]*", "");
    }

    private static void sourceIsAsAsked(String source) {
        for (String banned : BANNED) {
            Matcher found = Pattern.compile(banned).matcher(source);
            holds("the source has no " + banned, !found.find());
        }
        holds("only signs of 1 to 127", source.chars().allMatch(c -> c > 0 && c < 128));
        int length = 0;
        for (String line : source.split("\n")) {
            boolean starts = line.matches(" {4}( {4})?[a-z].*\\) \\{");
            length = starts ? 0 : length + 1;
            boolean ends = line.matches(" {4}( {4})?\\}");
            holds("methods have some sixty lines", !ends || length <= 60);
            length = ends ? 0 : length;
        }
    }
}
