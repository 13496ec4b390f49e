import java.lang.reflect.Constructor;
import java.lang.reflect.Field;
import java.lang.reflect.Method;
import java.lang.reflect.Modifier;
import java.nio.charset.StandardCharsets;
import java.nio.file.Files;
import java.nio.file.Path;
import java.util.ArrayList;
import java.util.Arrays;
import java.util.List;
import java.util.Set;
import java.util.TreeSet;
import java.util.regex.Matcher;
import java.util.regex.Pattern;

/** The class's face, and those rules of LANGUAGE.md that can be looked up in the class and its text. */
public final class LanguageTest {
    private static final String FACE = """
        int state(int)
        boolean colours(int)
        boolean pot(int,int)
        int wall(int)
        int person(int)
        boolean move(int,int)
        boolean view(int,int,int)
        int tree(int,int,int)
        boolean tell(int,int,int,int)
        boolean beside(int,int,boolean)
        boolean paint(int,int)
        int feed(int,int,int,int,int)
        boolean end(int)
        int text()
        int fault(int)
        int sees(int,int)
        int worth(int)
        int colour(int,int)
        int become(int)
        int gains(int,int)
        int best(int)
        int trade()
        int stand()
        int hope(int,int,int,int,int)
        int homes(int)
        int swap()
        boolean deed(int,int,int)
        int must(int,int,int)
        boolean looks(int,int)
        boolean link(int,int,boolean)
        int way(int,int,int,int)
        int years(int)
        boolean image(boolean)
        int look(int)
        """;
    private static int wrong = 0;

    private static void check(boolean ok, String what) {
        if (!ok) {
            wrong++;
            System.out.println(what);
        }
    }

    private static String signature(Method m) {
        List<String> types = new ArrayList<>();
        for (Class<?> type : m.getParameterTypes()) types.add(type.getName());
        return m.getReturnType().getName() + " " + m.getName() + "(" + String.join(",", types) + ")";
    }

    private static void face() {
        Class<?> c = PaintedByOthers.class;
        check(Modifier.isPublic(c.getModifiers()) && Modifier.isFinal(c.getModifiers()), "the class is public and final");
        Set<String> wanted = new TreeSet<>(Arrays.asList(FACE.split("\n")));
        Set<String> found = new TreeSet<>();
        for (Method m : c.getDeclaredMethods()) {
            if (!Modifier.isPrivate(m.getModifiers())) {
                check(Modifier.isPublic(m.getModifiers()), m + " is neither public nor private");
                found.add(signature(m));
            }
        }
        check(wanted.equals(found), "the face is " + found);
        for (Field f : c.getDeclaredFields()) {
            boolean none = f.getName().equals("NONE");
            check(none ? Modifier.isPublic(f.getModifiers()) : Modifier.isPrivate(f.getModifiers()), "rule 1: " + f);
        }
        Constructor<?>[] made = c.getDeclaredConstructors();
        check(made.length == 1 && Modifier.isPublic(made[0].getModifiers()) && made[0].getParameterCount() == 0, "the constructor");
    }

    private static void classes() {
        Set<String> faceNames = new TreeSet<>();
        for (String line : FACE.split("\n")) faceNames.add(line.replaceAll(".* (\\w+)\\(.*", "$1"));
        Class<?>[] inner = PaintedByOthers.class.getDeclaredClasses();
        check(inner.length <= 11, "rule 11: classes");
        List<Class<?>> all = new ArrayList<>(Arrays.asList(inner));
        all.add(PaintedByOthers.class);
        for (Class<?> c : all) {
            boolean outer = c == PaintedByOthers.class;
            check(outer || Modifier.isStatic(c.getModifiers()), "rule 2: " + c);
            check(outer || !Modifier.isPublic(c.getModifiers()) && !Modifier.isProtected(c.getModifiers()), "rule 1: " + c);
            int fields = 0;
            for (Field f : c.getDeclaredFields()) {
                boolean isStatic = Modifier.isStatic(f.getModifiers());
                check(!isStatic || Modifier.isFinal(f.getModifiers()), "rule 5: " + f);
                fields += isStatic ? 0 : 1;
            }
            check(fields <= 20, "rule 11: fields of " + c);
            for (Method m : c.getDeclaredMethods()) {
                check(m.getParameterCount() <= 7, "rule 11: " + m);
                check(outer && Modifier.isPublic(m.getModifiers()) || !faceNames.contains(m.getName()), "rule 1: " + m);
            }
        }
    }

    private static void text() throws Exception {
        String source = Files.readString(Path.of("src/main/java/PaintedByOthers.java"), StandardCharsets.UTF_8);
        for (char sign : source.toCharArray()) check(sign == '\n' || sign >= ' ' && sign < 127, "an odd sign " + (int) sign);
        String code = source.replaceAll("/\\*\\*.*?\\*/", "").replaceAll("(?m)//.*$", "");
        String banned = "throw|throws|try|catch|synchronized|assert|package|protected|double|float|Object|Exception|System\\.(?!arraycopy)\\w+"
            + "|equals|hashCode|toString|instanceof|\\w+Exact|Random|Thread|->|::|\\$|\\.\\.\\.|\\[\\]\\[\\]";
        Matcher m = Pattern.compile("(?<!\\w)(" + banned + ")(?!\\w)").matcher(code);
        while (m.find()) check(false, "not in this Java: " + m.group());
        m = Pattern.compile("(?m)^import (.*);$").matcher(code);
        while (m.find()) check(m.group(1).equals("java.util.Arrays"), "rule 4: " + m.group(1));
        m = Pattern.compile("\\b(Arrays|Math|Integer|Long)\\.(\\w+)").matcher(code);
        Set<String> used = Set.of("Arrays.fill", "Math.min", "Math.max", "Integer.bitCount");
        while (m.find()) check(used.contains(m.group()), "rule 4: " + m.group());
        String[] lines = source.split("\n");
        String indent = null;
        int begun = 0;
        for (int i = 0; i < lines.length; i++) {
            if (lines[i].matches(" +[\\w \\[\\]]+\\([^)]*\\) \\{") && !lines[i].matches(" +(if|for|while|switch|else).*")) {
                indent = lines[i].replaceAll("\\S.*", "");
                begun = i;
            } else if (indent != null && lines[i].equals(indent + "}")) {
                check(i - begun < 60, "rule 11: the method at line " + (begun + 1));
                indent = null;
            }
        }
    }

    public static void main(String[] args) throws Exception {
        face();
        classes();
        text();
        System.out.println(wrong == 0 ? "the language is kept" : wrong + " things are not in this language");
        if (wrong != 0) System.exit(1);
    }
}
