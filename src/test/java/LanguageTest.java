import java.io.IOException;
import java.lang.reflect.Constructor;
import java.lang.reflect.Field;
import java.lang.reflect.Method;
import java.lang.reflect.Modifier;
import java.nio.file.Files;
import java.nio.file.Path;
import java.util.ArrayList;
import java.util.HashSet;
import java.util.List;
import java.util.Set;
import java.util.TreeSet;
import java.util.regex.Matcher;
import java.util.regex.Pattern;

/** The rules of LANGUAGE.md that can be seen by looking at the class and its text. Run in the project's folder. */
public final class LanguageTest {
    private static final String SOURCE = "src/main/java/FourWaters.java";
    private static final String[] FACE = {
        "int sea(int)", "int water(int,int)", "int thick(int,int,int)", "int skin(int,int)", "int tide(int,int,int)",
        "int current(int,int)", "int thing(int,int,int)", "int ballast(int,int)", "int lift(int,int,int)",
        "int town(int)", "int dam(int,boolean)", "int drop(int,boolean)", "int clean(int)", "int type(int)",
        "int clear()", "int read()", "int hours(int)", "int undo()", "int of(int,int)", "int deep(int,int)",
        "int rests(int,int,int)", "int sink(int,int,int)", "int holds(int,int)", "int bestHour(int,int,int)",
        "int soonest(int,int)", "int net(int)", "int spill(int,int,int,int)", "int keepOut(int,int,int,int)",
        "int shaken(int,int,int)", "int lies(int,int,int,int,int)", "int wentIn(int,int)", "int nets(int,int,int)",
        "int tap(int)", "int known(int,int)", "int storm(int,int,int,int)", "long part(int)", "int image(int)",
        "int from(int)", "int status(int)", "int count(int)", "long digest()"};
    private static int wrong = 0;

    private static void must(boolean holds, String rule) {
        if (!holds) {
            wrong++;
            System.out.println("not so: " + rule);
        }
    }

    public static void main(String[] args) throws IOException {
        face();
        classes();
        String code = withoutComments(Files.readString(Path.of(SOURCE)));
        words(code);
        library(code);
        news(code);
        methodLengths(code);
        System.out.println(wrong == 0 ? "the rules are kept" : wrong + " rules are not kept");
        if (wrong != 0) {
            System.exit(1);
        }
    }

    private static String sign(Method m) {
        StringBuilder s = new StringBuilder(m.getReturnType().getName() + " " + m.getName() + "(");
        for (Class<?> p : m.getParameterTypes()) {
            s.append(s.charAt(s.length() - 1) == '(' ? "" : ",").append(p.getName());
        }
        return s.append(")").toString();
    }

    private static void face() {
        Class<?> c = FourWaters.class;
        must(Modifier.isPublic(c.getModifiers()) && Modifier.isFinal(c.getModifiers()), "public and final");
        Set<String> open = new TreeSet<>();
        Set<String> openNames = new HashSet<>();
        for (Method m : c.getDeclaredMethods()) {
            if (!Modifier.isPrivate(m.getModifiers())) {
                must(Modifier.isPublic(m.getModifiers()) && !Modifier.isStatic(m.getModifiers()), m + " is public");
                open.add(sign(m));
                openNames.add(m.getName());
            }
        }
        must(open.equals(new TreeSet<>(List.of(FACE))), "the document's methods and no others: " + open);
        for (Class<?> k : withNested(c)) {
            for (Method m : k.getDeclaredMethods()) {
                must(Modifier.isPublic(m.getModifiers()) || !openNames.contains(m.getName()), m + " has a name of its own");
                must(m.getParameterCount() <= 7, m + " has at most seven parameters");
            }
        }
        Constructor<?>[] made = c.getDeclaredConstructors();
        must(made.length == 1 && Modifier.isPublic(made[0].getModifiers()) && made[0].getParameterCount() == 0, "one constructor");
        Set<String> constants = new TreeSet<>();
        for (Field f : c.getDeclaredFields()) {
            if (!Modifier.isPrivate(f.getModifiers())) {
                constants.add(f.getName());
            }
        }
        must(constants.equals(new TreeSet<>(List.of("NONE", "BAD", "NO", "FULL"))), "the document's constants: " + constants);
    }

    private static List<Class<?>> withNested(Class<?> c) {
        List<Class<?>> all = new ArrayList<>();
        all.add(c);
        all.addAll(List.of(c.getDeclaredClasses()));
        return all;
    }

    private static void classes() {
        List<Class<?>> all = withNested(FourWaters.class);
        must(all.size() <= 12, "at most twelve classes");
        for (Class<?> k : all) {
            must(k == FourWaters.class || Modifier.isStatic(k.getModifiers()), k + " is static");
            int fields = 0;
            for (Field f : k.getDeclaredFields()) {
                boolean isStatic = Modifier.isStatic(f.getModifiers());
                must(!isStatic || Modifier.isFinal(f.getModifiers()), f + " is final");
                fields += isStatic ? 0 : 1;
            }
            must(fields <= 20, k + " has at most twenty fields");
        }
    }

    private static String withoutComments(String source) {
        return source.replaceAll("(?s)/\\*.*?\\*/", "").replaceAll("//[^\n]*", "");
    }

    private static void words(String code) {
        for (String word : List.of("throw", "throws", "try", "catch", "synchronized", "assert", "package", "protected",
                "double", "float", "Object", "hashCode", "toString", "Exact", "native", "volatile", "transient", "var")) {
            must(!Pattern.compile("\\b" + word + "\\b").matcher(code).find(), "no " + word);
        }
        must(!code.contains("->") && !code.contains("::"), "no lambda, no method reference");
        for (int i = 0; i < code.length(); i++) {
            must(code.charAt(i) < 128, "signs up to 127 alone");
        }
    }

    /** Every call on a class of the library is one that LANGUAGE.md lists. */
    private static void library(String code) {
        Set<String> listed = Set.of("Math.max", "Math.min", "Integer.bitCount", "System.arraycopy", "Arrays.fill");
        Matcher m = Pattern.compile("\\b(Math|Integer|Long|System|Arrays|String|StringBuilder|List|ArrayList)\\s*\\.\\s*(\\w+)").matcher(code);
        while (m.find()) {
            String call = m.group(1) + "." + m.group(2);
            must(listed.contains(call) || call.equals("Arrays.java"), call + " is listed");
        }
        Matcher imports = Pattern.compile("\\bimport\\s+([^;]+);").matcher(code);
        while (imports.find()) {
            must(imports.group(1).equals("java.util.Arrays"), imports.group(1) + " may be imported");
        }
    }

    /** Rows are made with the object and used again, so that no call fills the room. */
    private static void news(String code) {
        for (String line : code.split("\n")) {
            if (Pattern.compile("\\bnew\\b").matcher(line).find()) {
                must(line.matches("\\s+(private )?final [\\w\\[\\]]+ \\w+ = new .*;"), "made once: " + line.trim());
            }
        }
    }

    private static void methodLengths(String code) {
        String[] lines = code.split("\n");
        int start = 0;
        for (int i = 0; i < lines.length; i++) {
            if (lines[i].matches("( {4}| {8})[\\w\\[\\], ]+\\(.*\\) \\{")) {
                start = i;
            }
            if (lines[i].matches("( {4}| {8})\\}")) {
                must(i - start <= 60 || lines[start].contains("class"), "short: " + lines[start].trim());
            }
        }
    }
}
