import java.io.IOException;
import java.lang.reflect.Constructor;
import java.lang.reflect.Field;
import java.lang.reflect.InvocationTargetException;
import java.lang.reflect.Method;
import java.lang.reflect.Modifier;
import java.nio.file.Files;
import java.nio.file.Path;
import java.util.List;
import java.util.Map;
import java.util.Random;
import java.util.Set;
import java.util.TreeMap;
import java.util.TreeSet;
import java.util.regex.Matcher;
import java.util.regex.Pattern;

/**
 * Holds the program against what of ../shared/LANGUAGE.md, and of the document's face, can be seen
 * from outside. The first argument is the program's source.
 */
public final class LanguageTests {
    private static final List<String> FACE = List.of(
        "int feed(int)", "int town()", "int day(int)", "int street(int,int)", "int lead(int,int,boolean)",
        "int of(int,int)", "int told(int)", "int go(int,int,int)", "int tally(int,int,int)", "int cost(int)",
        "int gate(int)", "int fresh(int,int)", "int need(int,int)", "int way(int,int)", "int errands(int,int,int)",
        "int stand()", "long ways(int,int,int)", "long stray(int,int,int,int)", "int tell(int,int)",
        "int wrong(int)", "int act(int,int,int)", "int trace(int)", "int as(int,int)", "int image()",
        "int undo()", "int count(int)");
    private static final Set<String> CONSTANTS = Set.of("NONE", "BAD", "STATE", "FULL", "NO");
    private static int wrong = 0;

    public static void main(String[] args) throws IOException {
        String source = Files.readString(Path.of(args[0]));
        face();
        insides();
        words(source);
        sizes(source);
        wildCalls();
        System.out.println("LanguageTests: " + wrong + " wrong");
        if (wrong != 0) {
            System.exit(1);
        }
    }

    private static void need(boolean is, String told) {
        if (!is) {
            wrong++;
            System.out.println(told);
        }
    }

    private static void face() {
        Set<String> methods = new TreeSet<>();
        for (Method method : EvenTally.class.getDeclaredMethods()) {
            if (Modifier.isPublic(method.getModifiers())) {
                methods.add(signature(method));
            } else {
                need(Modifier.isPrivate(method.getModifiers()), "rule 1: not private: " + method);
            }
        }
        need(methods.equals(new TreeSet<>(FACE)), "rule 1: the face's methods are " + methods);
        for (Field field : EvenTally.class.getDeclaredFields()) {
            boolean told = CONSTANTS.contains(field.getName());
            int modifiers = field.getModifiers();
            need(told ? Modifier.isPublic(modifiers) : Modifier.isPrivate(modifiers), "rule 1: " + field);
        }
        Constructor<?>[] constructors = EvenTally.class.getDeclaredConstructors();
        need(constructors.length == 1 && Modifier.isPublic(constructors[0].getModifiers())
            && constructors[0].getParameterCount() == 0, "rule 1: the constructor");
        need(Modifier.isFinal(EvenTally.class.getModifiers()), "rule 1: final");
    }

    private static String signature(Method method) {
        StringBuilder text = new StringBuilder(method.getReturnType().getName() + " " + method.getName() + "(");
        for (Class<?> type : method.getParameterTypes()) {
            text.append(text.charAt(text.length() - 1) == '(' ? "" : ",").append(type.getName());
        }
        return text.append(")").toString();
    }

    private static void insides() {
        Set<String> names = new TreeSet<>();
        for (String method : FACE) {
            names.add(method.substring(method.indexOf(' ') + 1, method.indexOf('(')));
        }
        Class<?>[] classes = EvenTally.class.getDeclaredClasses();
        need(classes.length < 12, "rule 11: classes");
        check(EvenTally.class, names);
        for (Class<?> inside : classes) {
            need(Modifier.isStatic(inside.getModifiers()) && !Modifier.isPublic(inside.getModifiers()),
                "rules 1, 2: " + inside);
            check(inside, names);
        }
    }

    private static void check(Class<?> one, Set<String> names) {
        int fields = 0;
        for (Field field : one.getDeclaredFields()) {
            boolean isStatic = Modifier.isStatic(field.getModifiers());
            fields += isStatic ? 0 : 1;
            need(!isStatic || Modifier.isFinal(field.getModifiers()), "rule 5: " + field);
        }
        need(fields <= 20, "rule 11: fields of " + one);
        for (Method method : one.getDeclaredMethods()) {
            need(method.getParameterCount() <= 7, "rule 11: parameters of " + method);
            need(Modifier.isPublic(method.getModifiers()) || !names.contains(method.getName()), "rule 1: " + method);
            need(!Set.of("equals", "hashCode", "toString").contains(method.getName()), "rule 6: " + method);
        }
    }

    private static void words(String source) {
        for (char sign : source.toCharArray()) {
            need(sign < 128, "rule 3: a sign " + (int) sign);
        }
        String code = source.replaceAll("(?s)/\\*.*?\\*/", " ").replaceAll("//[^\n]*", " ").replaceAll("\"[^\"\n]*\"", "\"\"");
        String[] not = {"throw", "throws", "try", "catch", "synchronized", "assert", "package", "volatile", "native",
            "System\\.(?!arraycopy)", "Thread", "->", "::", "Exact", "Random", "Object", "\\.class", "var"};
        for (String word : not) {
            boolean isWord = Character.isLetter(word.charAt(0));
            Matcher matcher = Pattern.compile(isWord ? "\\b" + word : word).matcher(code);
            while (matcher.find()) {
                int end = matcher.end();
                boolean isLonger = isWord && !word.contains("(") && Character.isJavaIdentifierPart(code.charAt(end));
                need(isLonger, "rules 2, 4, 6, 13: " + word);
            }
        }
        Matcher imports = Pattern.compile("import ([^;]*);").matcher(code);
        while (imports.find()) {
            need(Set.of("java.util.Arrays", "java.util.ArrayList", "java.util.List").contains(imports.group(1)),
                "rule 4: " + imports.group());
        }
        need(!Pattern.compile("static\\s*\\{").matcher(code).find(), "rule 5: a static block");
        for (String line : code.split("\n")) {
            // Rows are made in constructors, as fields, so that calls make nothing.
            need(!line.matches(".*\\bnew\\b.*") || line.matches(" +\\w+ = new \\w+(\\[[^\\]]*\\]|\\(\\));"), "rule 12: " + line);
        }
    }

    /** Rule 7, far beyond 512 calls: what is answered then is free, but nothing may be thrown. */
    private static void wildCalls() {
        int[] some = {0, 0, 0, 1, 1, 2, 3, 4, 5, 6, 6, 7, 8, 9, 10, 20, 21, 98, 99, 100, 127, 128, 999, 1000, 9999, 10000,
            -1, -1, -2, -128, Integer.MIN_VALUE, Integer.MIN_VALUE + 1, Integer.MAX_VALUE, Integer.MAX_VALUE - 1};
        String[] towns = {"fine 9 s<9;step 9 u>1;allow 9 l>1", "step 1 !(k=1)|d<3;;", "((((((", "allow 99 !!!!!u<9"};
        Random random = new Random(7);
        for (int run = 0; run < 40; run++) {
            EvenTally x = new EvenTally();
            for (int call = 0; call < 2000; call++) {
                String text = random.nextInt(60) == 0 ? towns[random.nextInt(towns.length)] : "";
                for (char sign : text.toCharArray()) {
                    x.feed(sign);
                }
                wildCall(x, random, some);
            }
        }
    }

    private static void wildCall(EvenTally x, Random random, int[] some) {
        Method[] methods = EvenTally.class.getMethods();
        Method method = methods[random.nextInt(methods.length)];
        if (method.getDeclaringClass() != EvenTally.class) {
            return;
        }
        Class<?>[] types = method.getParameterTypes();
        Object[] with = new Object[types.length];
        for (int i = 0; i < with.length; i++) {
            int n = random.nextInt(3) == 0 ? some[random.nextInt(some.length)] : random.nextInt(7);
            with[i] = types[i] == boolean.class ? (Object) (n > 0) : (Object) n;
        }
        try {
            method.invoke(x, with);
        } catch (IllegalAccessException | InvocationTargetException thrown) {
            need(false, "rule 7: " + method + " of " + List.of(with) + ": " + thrown.getCause());
        }
    }

    private static void sizes(String source) {
        Map<Integer, Integer> open = new TreeMap<>();
        String[] lines = source.split("\n");
        for (int i = 0; i < lines.length; i++) {
            String line = lines[i];
            int indent = line.length() - line.stripLeading().length();
            need(line.length() <= 120, "a long line: " + (i + 1));
            if (line.endsWith("{") && line.contains("(")) {
                open.putIfAbsent(indent, i);
            }
            if (line.strip().startsWith("}") && open.containsKey(indent)) {
                need(i - open.remove(indent) <= 60, "rule 11: a long method ends on line " + (i + 1));
            }
        }
    }
}
