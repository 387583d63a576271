import java.io.IOException;
import java.lang.reflect.Field;
import java.lang.reflect.Method;
import java.lang.reflect.Modifier;
import java.nio.file.Files;
import java.nio.file.Path;
import java.util.ArrayList;
import java.util.Arrays;
import java.util.List;
import java.util.Set;
import java.util.TreeSet;
import java.util.regex.Matcher;
import java.util.regex.Pattern;

/** The document's face, and the rules of LANGUAGE.md that the class and its text show. */
public final class RulesTest {
    private static final String FACE = """
            boolean yard(int,int)
            boolean kind(int,int)
            boolean lane(int,int,int,boolean)
            int lanes()
            int cost(int,int)
            boolean stand(int,boolean)
            int number(boolean)
            int peg(int)
            int disc(int,int)
            int why(int,int)
            int move(int,int)
            int undo()
            int redo()
            int moves()
            int fewest()
            int plan()
            int planned(int)
            long ways()
            int reach()
            int far()
            int farthest()
            int joined(int)
            boolean rename(int,int,int,int,int)
            int about()
            int scheme()
            int single(int,int,int)
            int call(int,int,int,int,int,int,int,int)
            long count(int,int)
            int tried(int,int,int,int,int,int,int)
            int failed()
            int trouble()
            int size(int)
            """;

    private RulesTest() {
    }

    public static void main(String[] args) throws IOException {
        face();
        inside();
        text();
        Check.end();
    }

    private static String told(Method method) {
        StringBuilder text = new StringBuilder(method.getReturnType().getName()).append(' ')
                .append(method.getName()).append('(');
        String comma = "";
        for (Class<?> type : method.getParameterTypes()) {
            text.append(comma).append(type.getName());
            comma = ",";
        }
        return text.append(')').toString();
    }

    private static void face() {
        Check.part("rule 1");
        Set<String> want = new TreeSet<>(Arrays.asList(FACE.split("\n")));
        Set<String> got = new TreeSet<>();
        for (Method method : DiscYard.class.getDeclaredMethods()) {
            if (!Modifier.isPrivate(method.getModifiers())) {
                got.add(told(method));
                Check.due(told(method) + " is public", Modifier.isPublic(method.getModifiers()), true);
                Check.due(told(method) + " is static", Modifier.isStatic(method.getModifiers()), false);
            }
        }
        Check.due("the face " + got, got.equals(want), true);
        Check.due("final", Modifier.isFinal(DiscYard.class.getModifiers()), true);
        Check.due("public", Modifier.isPublic(DiscYard.class.getModifiers()), true);
        Check.due("constructors", DiscYard.class.getDeclaredConstructors().length, 1);
        Check.due("public constructors", DiscYard.class.getConstructors().length, 1);
        for (Field field : DiscYard.class.getDeclaredFields()) {
            Check.due(field.getName(), Modifier.isPrivate(field.getModifiers()), !field.getName().equals("NONE"));
        }
    }

    private static void inside() {
        Check.part("rules 1, 2, 5 and 11");
        Set<String> publicNames = new TreeSet<>();
        for (Method method : DiscYard.class.getMethods()) {
            publicNames.add(method.getName());
        }
        List<Class<?>> classes = new ArrayList<>(Arrays.asList(DiscYard.class.getDeclaredClasses()));
        Check.due("at most twelve classes", classes.size() < 12, true);
        for (Class<?> inner : classes) {
            Check.due(inner + " is static", Modifier.isStatic(inner.getModifiers()), true);
        }
        classes.add(DiscYard.class);
        for (Class<?> each : classes) {
            int fields = 0;
            for (Field field : each.getDeclaredFields()) {
                boolean fixed = Modifier.isStatic(field.getModifiers());
                fields += fixed ? 0 : 1;
                Check.due(field + " is final", !fixed || Modifier.isFinal(field.getModifiers()), true);
            }
            Check.due(each + " has at most twenty fields", fields <= 20, true);
            for (Method method : each.getDeclaredMethods()) {
                boolean own = each != DiscYard.class || Modifier.isPrivate(method.getModifiers());
                Check.due(method + " has a name of its own", own && publicNames.contains(method.getName()), false);
                Check.due(method + " has few parameters", own && method.getParameterCount() > 7, false);
            }
        }
    }

    private static void text() throws IOException {
        Check.part("rules 4 to 9");
        String path = System.getProperty("discyard.source", "src/main/java/DiscYard.java");
        String source = Files.readString(Path.of(path));
        String code = source.replaceAll("(?s)/\\*.*?\\*/", "").replaceAll("//[^\n]*", "");
        String[] forbidden = {"\\bthrow\\b", "\\btry\\b", "\\bcatch\\b", "\\bsynchronized\\b", "\\bassert\\b", "->",
            "::", "\\bstatic\\s*\\{", "\\bpackage\\b", "Exact\\b", "\\bvar\\b", "\\bSystem\\.(?!arraycopy)",
            "\\bThread\\b", "\\bRandom\\b", "\\bvolatile\\b", "\\btransient\\b", "\\bnative\\b", " / ", " % ",
            "\\bnull\\b", "\\bwhile \\(true\\)", "for \\(;;\\)", "\\bdouble\\b", "\\bfloat\\b"};
        for (String pattern : forbidden) {
            Check.due("'" + pattern + "' stands in the text", Pattern.compile(pattern).matcher(code).find(), false);
        }
        Matcher imports = Pattern.compile("import [^;]*;").matcher(code);
        while (imports.find()) {
            Check.due(imports.group(), imports.group().equals("import java.util.Arrays;"), true);
        }
        methodLengths(code);
    }

    /** Rule 11: some sixty lines; a method of this file begins and ends at one depth of blanks. */
    private static void methodLengths(String code) {
        String[] lines = code.split("\n");
        for (int k = 0; k < lines.length; k++) {
            Matcher head = Pattern.compile("^( {4}| {8})(?!.*\\bclass\\b)\\S.*\\{$").matcher(lines[k]);
            if (!head.find()) {
                continue;
            }
            int end = k;
            while (end < lines.length && !lines[end].equals(head.group(1) + "}")) {
                end++;
            }
            Check.due(lines[k].trim() + " is short", end - k < 60, true);
        }
    }
}
