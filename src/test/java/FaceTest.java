import java.lang.reflect.Constructor;
import java.lang.reflect.Field;
import java.lang.reflect.Method;
import java.lang.reflect.Modifier;
import java.nio.file.Files;
import java.nio.file.Path;
import java.util.Arrays;
import java.util.Set;
import java.util.TreeSet;
import java.util.regex.Matcher;
import java.util.regex.Pattern;

/** The public face, the rules of the language that a test can see, and far arguments in any state. */
public final class FaceTest {
    private static final String[] FACE = {"int feed(int)", "int end(int)", "int text()", "int fault()", "int rule(int)",
        "int road(int,int)", "int car(int,int)", "int use(int,int)", "int gap(int,int)", "int sight(int,int)", "int odd(int,int)",
        "int build(int,int,boolean)", "int polite(int)", "int teach(int,int,int)", "int drive(int)", "int on()",
        "int ahead(int,int)", "int tail(int)", "int lost()", "long past(int,int)", "long mean(int,int)", "long row(int)",
        "long where(int,int,int)", "int cost(int)", "int third(int)", "int layby(int)", "int fair(int)", "int need(int)",
        "long dare(int,int)", "int see(int,int)", "int forget(int)", "int fits(int)", "int could()", "int drift(int,int)",
        "int keep(int)", "int back(int)", "int sheet(int,int,int)", "int lay(int,int,int)", "int read(int,int,int,int)",
        "int torn()", "int count(int)"};
    private static final int[] FAR = {Integer.MIN_VALUE, -1, 0, 1, 2, 3, 5, 6, 7, 8, 9, 40, 41, Integer.MAX_VALUE};
    private static int wrong = 0;

    private static void check(String what, boolean holds) {
        if (!holds) {
            wrong++;
            System.out.println(what + " does not hold");
        }
    }

    private static String signature(Method m) {
        StringBuilder b = new StringBuilder(m.getReturnType().getName()).append(' ').append(m.getName()).append('(');
        for (Class<?> type : m.getParameterTypes()) {
            b.append(b.charAt(b.length() - 1) == '(' ? "" : ",").append(type.getName());
        }
        return b.append(')').toString();
    }

    private static void face() {
        Class<?> c = BehindTractor.class;
        check("public and final", Modifier.isPublic(c.getModifiers()) && Modifier.isFinal(c.getModifiers()));
        Set<String> found = new TreeSet<>();
        Set<String> names = new TreeSet<>();
        for (Method m : c.getDeclaredMethods()) {
            if (!Modifier.isPrivate(m.getModifiers())) {
                check(m + " is public", Modifier.isPublic(m.getModifiers()) && !Modifier.isStatic(m.getModifiers()));
                found.add(signature(m));
                names.add(m.getName());
            }
        }
        check("the methods " + found, found.equals(new TreeSet<>(Arrays.asList(FACE))));
        for (Field f : c.getDeclaredFields()) {
            boolean constant = Set.of("BAD", "STATE", "FULL", "NONE").contains(f.getName());
            check(f + " stays inside", Modifier.isPrivate(f.getModifiers()) || constant);
        }
        Constructor<?>[] made = c.getDeclaredConstructors();
        check("one constructor", made.length == 1 && made[0].getParameterCount() == 0 && Modifier.isPublic(made[0].getModifiers()));
        for (Class<?> inner : c.getDeclaredClasses()) {
            check(inner + " is static", Modifier.isStatic(inner.getModifiers()));
            check(inner + " has few fields", inner.getDeclaredFields().length <= 25);
            for (Constructor<?> maker : inner.getDeclaredConstructors()) {
                check(maker + " is handed nothing of the object that is being made", maker.getParameterCount() == 0);
            }
            for (Method m : inner.getDeclaredMethods()) {
                check(m + " has a name of its own", !names.contains(m.getName()));
            }
        }
        for (Method m : c.getDeclaredMethods()) {
            check(m + " has a name of its own", !Modifier.isPrivate(m.getModifiers()) || !names.contains(m.getName()));
        }
    }

    private static void language() throws Exception {
        String source = Files.readString(Path.of("src/main/java/BehindTractor.java"));
        String code = source.replaceAll("(?s)/\\*.*?\\*/", "").replaceAll("//[^\n]*", "").replaceAll("\"[^\"]*\"", "\"\"");
        Matcher m = Pattern.compile("\\b(throw|throws|try|catch|synchronized|assert|import|package|instanceof)\\b|->|::|\\w+Exact\\b").matcher(code);
        check("no word that the language leaves out", !m.find());
        check("ends within its own lines", !Pattern.compile("while \\(true\\)|for \\(;;").matcher(code).find());
        check("few classes", code.split("\\bclass ").length - 1 <= 12);
        shortMethods(code);
        nothingMadeInCalls(code);
        check("signs", source.chars().allMatch(s -> s == '\n' || s >= 32 && s < 127));
    }

    private static void shortMethods(String code) {
        Matcher m = Pattern.compile("(?m)^( +)(?!if|for|while|switch|else|private static final class)[a-z][\\w\\[\\]]*( [\\w\\[\\]]+)*"
            + "\\(([^()]*)\\) \\{$").matcher(code);
        int methods = 0;
        while (m.find()) {
            methods++;
            int close = code.indexOf("\n" + m.group(1) + "}", m.end());
            check(m.group().trim() + " is short", code.substring(m.end(), close).split("\n").length <= 60);
            check(m.group().trim() + " takes few parameters", m.group(3).split(",").length <= 7);
        }
        check("methods were found", methods >= FACE.length);
    }

    /** All that a run makes is counted: it is made with the object, in its fields, and used again. */
    private static void nothingMadeInCalls(String code) {
        for (String line : code.split("\n")) {
            check(line.trim() + " makes a field", !line.contains("new ") || line.matches(" +(private )?final [\\w\\[\\]]+ \\w+ = .*;"));
        }
    }

    private static Object argument(Class<?> type, int i) {
        return type == boolean.class ? (Object) (i % 2 == 0) : (Object) FAR[i % FAR.length];
    }

    /** Every call with every far argument; the machine's own exceptions come out of invoke. */
    private static void farArguments(String text) throws Exception {
        for (Method m : BehindTractor.class.getDeclaredMethods()) {
            if (!Modifier.isPublic(m.getModifiers())) {
                continue;
            }
            Class<?>[] types = m.getParameterTypes();
            int many = (int) Math.pow(FAR.length, Math.min(3, types.length));
            BehindTractor x = null;
            for (int n = 0; n < many; n++) {
                if (n % 200 == 0) {
                    x = told(text);
                }
                Object[] args = new Object[types.length];
                int rest = n;
                for (int i = 0; i < args.length; i++) {
                    args[i] = argument(types[i], i == 3 ? n * 5 + n / 14 : rest % FAR.length);
                    rest /= FAR.length;
                }
                m.invoke(x, args);
            }
        }
    }

    private static BehindTractor told(String text) {
        BehindTractor x = new BehindTractor();
        text.chars().forEach(x::feed);
        x.text();
        x.sheet(0, 0, 40);
        x.sheet(1, 1, 1);
        x.sheet(2, 2, 0);
        x.keep(0);
        x.see(0, 5);
        return x;
    }

    public static void main(String[] args) throws Exception {
        face();
        language();
        farArguments("");
        farArguments("road 2 9 5;road 2 9 9;car one 4 1;");
        farArguments("road 9 9 9;".repeat(8) + "car bold 9 5;".repeat(5) + "car one;");
        farArguments("road 9 9 9;".repeat(8) + "car one 9 5;".repeat(6));
        farArguments("car one 9 5;".repeat(6));
        System.out.println(wrong == 0 ? "the face stands" : wrong + " things do not hold");
        if (wrong != 0) {
            System.exit(1);
        }
    }
}
