import java.io.IOException;
import java.lang.reflect.Field;
import java.lang.reflect.Method;
import java.lang.reflect.Modifier;
import java.nio.file.Files;
import java.nio.file.Path;
import java.util.Arrays;
import java.util.HashMap;
import java.util.HashSet;
import java.util.Map;
import java.util.Set;
import java.util.TreeSet;
import java.util.regex.Matcher;
import java.util.regex.Pattern;
import java.util.stream.Collectors;

/** What can be seen of LANGUAGE.md in the class and in its text. It is run where src is. */
public final class LanguageTest {
    private static final String METHODS = "addCopy(int,int) addPatron() set(int,int) setting(int) "
        + "setFloating(int,boolean) copyCount(int) copy(int,int) day() pass(int) lend(int,int) bringBack(int,int) "
        + "renew(int) claim(int) lose(int) hold(int,int,int) cancelHold(int,int) reason(int,int,int) holdCount(int) "
        + "waiting(int) holdAt(int,int,int) place(int,int) estimate(int,int) patronCount() owes(int) accrued(int) "
        + "patron(int,int) loanOf(int,int) fine(int) pay(int,int) waive(int,int) ledgerSize() ledger(int,int) "
        + "ledgerSum(int,int) shelf(int,int) arriving(int,int) feed(int) execute() save() restore() undo()";
    private static final int MOST_FIELDS = 20;
    private static final int MOST_LINES = 60;
    private static final int DEEPEST = 8;

    public static void main(String[] args) throws IOException {
        face();
        for (Class<?> inner : LibraryCirculation.class.getDeclaredClasses()) {
            Due.holds(inner + " is static", Modifier.isStatic(inner.getModifiers()));
            fields(inner);
        }
        fields(LibraryCirculation.class);
        String text = Files.readString(Path.of("src/main/java/LibraryCirculation.java"));
        String code = text.replaceAll("(?s)/\\*.*?\\*/|//[^\n]*", "").replaceAll("'.'", "0");
        words(code);
        names();
        methods(code);
        Due.end();
    }

    private static void face() {
        Class<?> c = LibraryCirculation.class;
        Due.holds("public and final", Modifier.isPublic(c.getModifiers()) && Modifier.isFinal(c.getModifiers()));
        Due.is("constructors", c.getDeclaredConstructors().length, 1);
        Set<String> seen = Arrays.stream(c.getDeclaredMethods()).filter(m -> !Modifier.isPrivate(m.getModifiers()))
            .map(LanguageTest::signature).collect(Collectors.toCollection(TreeSet::new));
        Set<String> want = new TreeSet<>(Arrays.asList(METHODS.split(" ")));
        Due.holds("the methods are those of the document, not " + seen, seen.equals(want));
        Set<String> fields = Arrays.stream(c.getDeclaredFields()).filter(f -> !Modifier.isPrivate(f.getModifiers()))
            .map(Field::getName).collect(Collectors.toCollection(TreeSet::new));
        Due.holds("the constants are those of the document", fields.equals(Set.of("BAD", "NONE", "FULL")));
    }

    private static String signature(Method m) {
        String types = Arrays.stream(m.getParameterTypes()).map(Class::getName).collect(Collectors.joining(","));
        return m.getName() + "(" + types + ")";
    }

    private static void fields(Class<?> c) {
        int own = 0;
        for (Field field : c.getDeclaredFields()) {
            boolean isStatic = Modifier.isStatic(field.getModifiers());
            Due.holds(field + " is final, if static", !isStatic || Modifier.isFinal(field.getModifiers()));
            if (!isStatic) own++;
        }
        Due.holds(c + " has few fields", own <= MOST_FIELDS);
    }

    private static void words(String code) {
        String[] words = {"\\bthrow\\b", "\\bthrows\\b", "\\btry\\b", "\\bcatch\\b", "\\bsynchronized\\b",
            "\\bassert\\b", "->", "::", "\\bimport\\b", "\\bpackage\\b", "static\\s*\\{", "\\w+Exact\\b",
            "\\bhashCode\\b", "\\bequals\\b", "\\btoString\\b", "\\bwhile\\s*\\(\\s*true", "for\\s*\\(\\s*;\\s*;", "\""};
        for (String word : words) {
            Due.holds("no " + word, !Pattern.compile(word).matcher(code).find());
        }
    }

    private static void names() {
        Set<String> names = new HashSet<>();
        for (String signature : METHODS.split(" ")) {
            names.add(signature.substring(0, signature.indexOf('(')));
        }
        noneOf(names, LibraryCirculation.class);
        for (Class<?> inner : LibraryCirculation.class.getDeclaredClasses()) {
            noneOf(names, inner);
        }
    }

    private static void noneOf(Set<String> names, Class<?> c) {
        for (Method method : c.getDeclaredMethods()) {
            boolean isFace = Modifier.isPublic(method.getModifiers());
            Due.holds(method + " bears another name", isFace || !names.contains(method.getName()));
            Due.holds(method + " has few parameters", method.getParameterCount() <= 7);
        }
    }

    /** Methods of the same name in several classes are taken for one here, which makes the calls deeper if at all. */
    private static void methods(String code) {
        Map<String, Set<String>> calls = new HashMap<>();
        Pattern head = Pattern.compile("(?m)^( +)(?:[a-z]+ )*[\\w\\[\\]]+ (\\w+)\\([^;{]*\\) \\{$");
        Matcher matcher = head.matcher(code);
        while (matcher.find()) {
            int end = code.indexOf("\n" + matcher.group(1) + "}", matcher.end());
            String body = code.substring(matcher.end(), end);
            Due.holds(matcher.group(2) + " is short", body.lines().count() <= MOST_LINES);
            Matcher call = Pattern.compile("(\\w+)\\(").matcher(body);
            Set<String> called = calls.computeIfAbsent(matcher.group(2), name -> new HashSet<>());
            while (call.find()) called.add(call.group(1));
        }
        Due.holds("the methods are found", calls.size() > 100);
        for (String name : calls.keySet()) {
            Due.holds("calls of " + name + " go at most eight deep", depth(calls, name, 0) <= DEEPEST);
        }
    }

    private static int depth(Map<String, Set<String>> calls, String name, int open) {
        if (!calls.containsKey(name) || open > 2 * DEEPEST) return 0;
        int deepest = 0;
        for (String called : calls.get(name)) {
            deepest = Math.max(deepest, depth(calls, called, open + 1));
        }
        return 1 + deepest;
    }
}
