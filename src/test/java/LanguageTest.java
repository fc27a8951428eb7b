import java.io.IOException;
import java.lang.reflect.Constructor;
import java.lang.reflect.Field;
import java.lang.reflect.Method;
import java.lang.reflect.Modifier;
import java.nio.file.Files;
import java.nio.file.Path;
import java.util.Arrays;
import java.util.Set;
import java.util.TreeSet;
import java.util.regex.Matcher;
import java.util.regex.Pattern;

/** What a look at the text and at the compiled class can tell of the rules of ../shared/LANGUAGE.md. */
public final class LanguageTest {
    private static final String FACE = "boolean seed(int);boolean undo();int bestRise(int, int);int bound(int, int);"
            + "int canBe(int);int chain(int);int check(int);int claimIs(int, int);int claims(int);int comes(int, int);"
            + "int count(int);int days(int);int feed(int, int, int, int, int);int groups(int);int halves(int, int);"
            + "int idle(int);int keep();int known(int, int);int law(int);int lightest(int);int narrowest(int, int);"
            + "int orders(int);int paired(int, int);int rests(int, int, int);int richest();int round(int, int);"
            + "int slack(int);int soonest(int, int);int stallIs(int, int);int steady(int, int);int stock(int);"
            + "int surely(int, int);int triangle(int, int);int tried(int, int);int twos(int, int);int walk(int, int);"
            + "int weighings(int, int);long row(int, int)";

    public static void main(String[] args) throws IOException {
        String source = Files.readString(Path.of("src/main/java/OnlyDifferences.java"));
        String code = source.replaceAll("(?s)/\\*.*?\\*/", "").replaceAll("//[^\n]*", "")
                .replaceAll("\"[^\"\n]*\"", "\"\"").replaceAll("'[^'\n]'", "' '");
        face();
        members();
        words(code);
        methods(code);
        Due.end();
    }

    private static void face() {
        Set<String> found = new TreeSet<>();
        for (Method method : OnlyDifferences.class.getDeclaredMethods()) {
            if (!Modifier.isPrivate(method.getModifiers()) && !method.isSynthetic()) {
                Due.is("public " + method, Modifier.isPublic(method.getModifiers()), true);
                StringBuilder told = new StringBuilder();
                for (Class<?> type : method.getParameterTypes()) {
                    told.append(told.length() == 0 ? "" : ", ").append(type.getName());
                }
                found.add(method.getReturnType() + " " + method.getName() + "(" + told + ")");
            }
        }
        Set<String> want = new TreeSet<>(Arrays.asList(FACE.split(";")));
        Due.is("the face, found " + found, found.equals(want), true);
        Constructor<?>[] made = OnlyDifferences.class.getDeclaredConstructors();
        Due.is("one constructor", made.length, 1);
        Due.is("it is public", Modifier.isPublic(made[0].getModifiers()), true);
        Due.is("the class is final", Modifier.isFinal(OnlyDifferences.class.getModifiers()), true);
    }

    private static void members() {
        Class<?>[] inside = OnlyDifferences.class.getDeclaredClasses();
        Due.is("classes", inside.length <= 12, true);
        checkFields(OnlyDifferences.class);
        Set<String> names = new TreeSet<>();
        for (Method method : OnlyDifferences.class.getMethods()) {
            names.add(method.getName());
        }
        for (Class<?> one : inside) {
            Due.is(one + " is static", Modifier.isStatic(one.getModifiers()), true);
            Due.is(one + " is not public", Modifier.isPublic(one.getModifiers()), false);
            checkFields(one);
            for (Method method : one.getDeclaredMethods()) {
                Due.is("a name of the face: " + method, names.contains(method.getName()), false);
            }
        }
        for (Method method : OnlyDifferences.class.getDeclaredMethods()) {
            boolean isPrivate = Modifier.isPrivate(method.getModifiers());
            Due.is("a name of the face: " + method, isPrivate && names.contains(method.getName()), false);
        }
    }

    private static void checkFields(Class<?> one) {
        int own = 0;
        for (Field field : one.getDeclaredFields()) {
            boolean isStatic = Modifier.isStatic(field.getModifiers());
            own += isStatic ? 0 : 1;
            Due.is("static and not final: " + field, isStatic && !Modifier.isFinal(field.getModifiers()), false);
            boolean isNone = field.getName().equals("NONE") && one == OnlyDifferences.class;
            Due.is("open: " + field, !isNone && !Modifier.isPrivate(field.getModifiers()), false);
        }
        Due.is("fields of " + one, own <= 20, true);
    }

    private static void words(String code) {
        String[] ruledOut = {
            "\\bthrow\\b", "\\bthrows\\b", "\\btry\\b", "\\bcatch\\b", "\\bsynchronized\\b", "\\bassert\\b", "->", "::",
            "\\bExact\\b|Exact\\(", "\\bObject\\b", "\\bRandom\\b", "\\bThread\\b", "\\bhashCode\\b", "\\btoString\\b",
            "\\bstatic\\s*\\{", "\\bpackage\\b", "while\\s*\\(true\\)", "for\\s*\\(;;\\)", "System\\.(?!arraycopy)",
            "Arrays\\.(?!fill|copyOf|copyOfRange|\\s*;)", "Math\\.(?!min|max|abs)", "Integer\\.(?!bitCount)",
            "Long\\.(?!MIN_VALUE)",
        };
        for (String word : ruledOut) {
            Matcher matcher = Pattern.compile(word).matcher(code.replaceAll("import java\\.util\\.Arrays;", ""));
            Due.is("ruled out: " + word, matcher.find(), false);
        }
        Matcher imports = Pattern.compile("import ([^;]+);").matcher(code);
        while (imports.find()) {
            Due.is("import " + imports.group(1), imports.group(1).equals("java.util.Arrays"), true);
        }
    }

    private static void methods(String code) {
        Matcher heads = Pattern.compile("(?m)^ {4,8}(?:[a-z]+ )*[A-Za-z\\[\\]]+ ?[A-Za-z]+\\(([^)]*)\\) \\{$").matcher(code);
        int many = 0;
        while (heads.find()) {
            many++;
            String head = heads.group().trim();
            int commas = (int) heads.group(1).chars().filter(sign -> sign == ',').count();
            Due.is("parameters of " + head, commas < 7, true);
            String indent = heads.group().replaceAll("\\S(?s).*", "").replace("\n", "");
            int end = code.indexOf("\n" + indent + "}", heads.end());
            long lines = code.substring(heads.start(), end).chars().filter(sign -> sign == '\n').count() + 1;
            Due.is("lines of " + head + ": " + lines, lines <= 60, true);
        }
        Due.is("methods found: " + many, many > 100, true);
    }
}
