import java.lang.reflect.Constructor;
import java.lang.reflect.Field;
import java.lang.reflect.Method;
import java.lang.reflect.Modifier;
import java.nio.file.Files;
import java.nio.file.Path;
import java.util.ArrayList;
import java.util.HashSet;
import java.util.List;
import java.util.Set;
import java.util.regex.Pattern;

/** The public face of the document, and the rules of LANGUAGE.md that can be seen without running. */
public final class FaceTests {
    private static final String[] FACE = {"letter 1", "parlour 0", "person 2", "bothers 2", "place 1", "set 2", "kind 2",
        "turn 1", "drifts 1", "go 1", "cost 2", "at 1", "of 3", "best 2", "finer 2", "mark 1", "most 1", "between 1",
        "leave 1", "holds 1", "setAt 0", "steadyFrom 0", "whoLast 1", "when 1", "row 1", "kept 1", "judge 0", "lots 2",
        "image 0", "on 0", "count 1"};
    private static int wrong = 0;

    private static void must(boolean holds, String what) {
        if (!holds) {
            wrong++;
            System.out.println("not so: " + what);
        }
    }

    private static void face() {
        Class<?> c = AHairToTheLeft.class;
        must(Modifier.isPublic(c.getModifiers()) && Modifier.isFinal(c.getModifiers()), "the class is public and final");
        List<String> open = new ArrayList<>();
        Set<String> names = new HashSet<>();
        for (Method m : c.getDeclaredMethods()) {
            if (Modifier.isPublic(m.getModifiers())) {
                open.add(m.getName() + " " + m.getParameterCount());
                names.add(m.getName());
                must(m.getReturnType() == int.class && !Modifier.isStatic(m.getModifiers()), m + " answers an int");
                for (Class<?> p : m.getParameterTypes()) {
                    must(p == int.class, m + " takes ints");
                }
            } else {
                must(Modifier.isPrivate(m.getModifiers()), m + " is private");
            }
        }
        must(open.size() == FACE.length, "there are " + FACE.length + " public methods");
        for (String f : FACE) {
            must(open.contains(f), f + " is there");
        }
        Constructor<?>[] made = c.getDeclaredConstructors();
        must(made.length == 1 && Modifier.isPublic(made[0].getModifiers()) && made[0].getParameterCount() == 0, "one constructor");
        noneNamedAsPublic(c, names);
        for (Class<?> inner : c.getDeclaredClasses()) {
            must(Modifier.isStatic(inner.getModifiers()) && !Modifier.isPublic(inner.getModifiers())
                && !Modifier.isProtected(inner.getModifiers()), inner + " is static and not public");
            noneNamedAsPublic(inner, names);
            fields(inner);
        }
        must(c.getDeclaredClasses().length <= 12, "at most twelve classes");
        fields(c);
        for (Field f : c.getDeclaredFields()) {
            must(Modifier.isPrivate(f.getModifiers()), f + " is private");
        }
    }

    private static void noneNamedAsPublic(Class<?> c, Set<String> names) {
        for (Method m : c.getDeclaredMethods()) {
            must(!Modifier.isPrivate(m.getModifiers()) || !names.contains(m.getName()), m + " bears a public name");
            must(m.getParameterCount() <= 7, m + " takes at most seven");
        }
    }

    private static void fields(Class<?> c) {
        int own = 0;
        for (Field f : c.getDeclaredFields()) {
            if (Modifier.isStatic(f.getModifiers())) {
                must(Modifier.isFinal(f.getModifiers()), f + " is final");
            } else {
                own++;
            }
        }
        must(own <= 20, c + " has at most twenty fields");
    }

    private static void text() throws Exception {
        String source = Files.readString(Path.of("src/main/java/AHairToTheLeft.java"));
        for (char ch : source.toCharArray()) {
            must(ch < 128, "only plain signs");
        }
        String code = source.replaceAll("(?s)/\\*.*?\\*/", "").replaceAll("//[^\n]*", "")
            .replaceAll("\"[^\"\n]*\"", "\"\"").replaceAll("'[^'\n]'", "' '");
        String[] never = {"\\bthrow\\b", "\\bthrows\\b", "\\btry\\b", "\\bcatch\\b", "\\bsynchronized\\b", "\\bassert\\b",
            "\\bpackage\\b", "\\)\\s*->", "[(,=]\\s*\\w+\\s*->", "::", "Exact\\b", "\\bThread\\b", "\\bRandom\\b", "static\\s*\\{", "\\bObject\\b",
            "\\bSystem\\b(?!\\.arraycopy)", "\\bimport\\b(?! java\\.util\\.(ArrayList|List|Arrays|Iterator);)",
            "\\bArrays\\.(?!copyOf|copyOfRange|fill)", "\\bList\\.(?!of)"};
        for (String n : never) {
            must(!Pattern.compile(n).matcher(code).find(), "no " + n);
        }
        shortMethods(code);
    }

    private static void shortMethods(String code) {
        int from = 0;
        String[] lines = code.split("\n");
        for (int i = 0; i < lines.length; i++) {
            if (lines[i].matches("\\s+(private |public |static |final )*[\\w\\[\\]]+ ?\\w*\\(.*\\) \\{")) {
                from = i;
            }
            must(i - from < 60 || !lines[i].matches("\\s{4,8}\\}"), "a method of at most sixty lines, line " + (i + 1));
        }
    }

    public static void main(String[] args) throws Exception {
        face();
        text();
        System.out.println(wrong == 0 ? "the face is as due" : wrong + " things are not as due");
        if (wrong != 0) {
            System.exit(1);
        }
    }
}
