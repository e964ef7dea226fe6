import java.io.IOException;
import java.lang.reflect.Array;
import java.lang.reflect.Field;
import java.lang.reflect.Method;
import java.lang.reflect.Modifier;
import java.nio.file.Files;
import java.nio.file.Path;
import java.util.ArrayList;
import java.util.Collections;
import java.util.IdentityHashMap;
import java.util.List;
import java.util.Set;
import java.util.TreeSet;
import java.util.regex.Matcher;
import java.util.regex.Pattern;

/** The face of the class, and such rules of LANGUAGE.md as a look at the class and its file can tell. */
public final class FaceTest {
    private static final Due DUE = new Due();

    private static final Set<String> METHODS = Set.of("int name(int)", "int parameter(int)", "int term(int,int,int)",
        "int define(int,int)", "int opaque(int,boolean)", "int ofName(int,int)", "int ofTerm(int,int)",
        "long size(int,int)", "int front(int)", "int check(int,int)", "int checked(int)", "int many(int)");
    private static final Set<String> CONSTANTS = Set.of("int UNKNOWN", "int OUTSIDE", "int STATE", "int FULL",
        "int SPENT", "int NONE", "long LOST");

    // What an object may take: far below the room of a run, which is 600,000 objects and 7,300,000 elements.
    private static final int MOST_OBJECTS = 40;
    private static final int MOST_ELEMENTS = 8000;

    public static void main(String[] args) throws IOException, IllegalAccessException {
        face();
        staticFields(LazyNames.class);
        counts(LazyNames.class);
        DUE.due("more than twelve classes", LazyNames.class.getDeclaredClasses().length < 12);
        for (Class<?> inside : LazyNames.class.getDeclaredClasses()) {
            counts(inside);
            DUE.due(inside + " is not static", Modifier.isStatic(inside.getModifiers()));
            DUE.due(inside + " is public or protected",
                !Modifier.isPublic(inside.getModifiers()) && !Modifier.isProtected(inside.getModifiers()));
            staticFields(inside);
        }
        source(Files.readString(Path.of("src/main/java/LazyNames.java")));
        room();
        DUE.end();
    }

    private static void face() {
        Class<?> face = LazyNames.class;
        DUE.due("the class is not public and final",
            Modifier.isPublic(face.getModifiers()) && Modifier.isFinal(face.getModifiers()));
        DUE.due("constructors", face.getDeclaredConstructors().length, 1);
        DUE.due("public constructors", face.getConstructors().length, 1);
        DUE.due("parameters of the constructor", face.getConstructors()[0].getParameterCount(), 0);
        Set<String> methods = new TreeSet<>(), constants = new TreeSet<>(), names = new TreeSet<>();
        for (Method method : face.getDeclaredMethods()) {
            if (!Modifier.isPrivate(method.getModifiers())) methods.add(signature(method));
            DUE.due("the name of " + method + " stands twice", names.add(method.getName()));
        }
        DUE.due("the methods are " + methods, methods.equals(METHODS));
        for (Field field : face.getDeclaredFields()) {
            if (!Modifier.isPrivate(field.getModifiers())) constants.add(field.getType() + " " + field.getName());
        }
        DUE.due("the constants are " + constants, constants.equals(CONSTANTS));
    }

    private static String signature(Method method) {
        StringBuilder types = new StringBuilder();
        for (Class<?> type : method.getParameterTypes()) types.append(types.length() == 0 ? "" : ",").append(type);
        DUE.due(method + " is not public", Modifier.isPublic(method.getModifiers()));
        return method.getReturnType() + " " + method.getName() + "(" + types + ")";
    }

    private static void staticFields(Class<?> of) {
        for (Field field : of.getDeclaredFields()) {
            if (!Modifier.isStatic(field.getModifiers())) continue;
            DUE.due(field + " is not final", Modifier.isFinal(field.getModifiers()));
            DUE.due(field + " is no plain constant", field.getType().isPrimitive());
        }
    }

    private static void counts(Class<?> of) {
        int fields = 0;
        for (Field field : of.getDeclaredFields()) if (!Modifier.isStatic(field.getModifiers())) fields++;
        DUE.due(of + " has " + fields + " fields", fields <= 20);
        for (Method method : of.getDeclaredMethods()) {
            DUE.due(method + " takes too many", method.getParameterCount() <= 7);
        }
    }

    /** All that an object holds is made with it, and no call makes anything: so it is the same at the end. */
    private static void room() throws IllegalAccessException {
        LazyNames x = new LazyNames();
        Set<Object> atFirst = heldBy(x);
        DUE.due("an object holds " + atFirst.size() + " objects", atFirst.size() <= MOST_OBJECTS);
        long elements = 0;
        for (Object held : atFirst) elements += elementsOf(held);
        DUE.due("an object holds " + elements + " elements", elements <= MOST_ELEMENTS);
        useAll(x);
        Set<Object> atLast = heldBy(x);
        DUE.due("calls made objects", atLast.size() == atFirst.size() && atLast.containsAll(atFirst));
    }

    private static void useAll(LazyNames x) {
        for (int n = 0; n <= 12; n++) x.name(n % 3);
        int c = x.term(0, LazyNames.NONE, LazyNames.NONE);
        for (int i = 0; i < 72; i++) x.term(i % 4 * 3 + 2, i / 9, i % 9);
        int closed = x.many(1), p = x.parameter(0), unfoldings = 0;
        for (int n = 5; n < 12; n += 3) x.define(n, x.term(n - 3, p, x.term(n - 3, p, c)));
        for (int at = 0; at < closed; at++) {
            for (int step = 1; step < 5; step++) {
                if (x.check(at, (at + step) % closed) >= 0) unfoldings += x.checked(0);
            }
            x.size(at, at % 4);
            x.front(at);
        }
        DUE.due("few unfoldings: " + unfoldings, unfoldings > 100);
    }

    private static Set<Object> heldBy(Object first) throws IllegalAccessException {
        Set<Object> held = Collections.newSetFromMap(new IdentityHashMap<>());
        List<Object> open = new ArrayList<>(List.of(first));
        while (!open.isEmpty()) {
            Object at = open.remove(open.size() - 1);
            if (at == null || !held.add(at)) continue;
            if (at instanceof Object[] row) open.addAll(List.of(row));
            for (Field field : at.getClass().getDeclaredFields()) {
                if (Modifier.isStatic(field.getModifiers()) || field.getType().isPrimitive()) continue;
                field.setAccessible(true);
                open.add(field.get(at));
            }
        }
        return held;
    }

    private static int elementsOf(Object held) {
        return held.getClass().isArray() ? Array.getLength(held) : held.getClass().getDeclaredFields().length;
    }

    private static void source(String text) {
        String code = text.replaceAll("(?s)/\\*.*?\\*/", "").replaceAll("//[^\n]*", "");
        for (String word : new String[] {"throw", "throws", "try", "catch", "synchronized", "assert", "package",
            "System", "Object", "Random", "Thread", "equals", "hashCode", "toString"}) {
            DUE.due("the word " + word, !Pattern.compile("\\b" + word + "\\b").matcher(code).find());
        }
        DUE.due("a lambda or a method reference", !code.contains("->") && !code.contains("::"));
        Matcher imports = Pattern.compile("import ([^;]*);").matcher(code);
        while (imports.find()) DUE.due("import " + imports.group(1), imports.group(1).equals("java.util.Arrays"));
        DUE.due("a sign beyond 127", text.chars().allMatch(sign -> sign < 128));
        methodsStayShort(text);
        objectsComeWithConstructors(code);
    }

    private static void objectsComeWithConstructors(String code) {
        Pattern field = Pattern.compile(" +private final [\\w\\[\\]]+ \\w+ = new [^;]*;");
        Pattern own = Pattern.compile(" +(terms|names|checker) = new [^;]*;");
        code.lines().filter(line -> Pattern.compile("\\bnew\\b").matcher(line).find()).forEach(line ->
            DUE.due("made by a call:" + line, field.matcher(line).matches() || own.matcher(line).matches()));
    }

    private static void methodsStayShort(String text) {
        Matcher methods = Pattern.compile("(?m)^( +)(?:public |private |static )*[\\w\\[\\]]+ (\\w+)\\([^;=]*\\) \\{$")
            .matcher(text);
        int found = 0;
        while (methods.find()) {
            found++;
            int end = text.indexOf("\n" + methods.group(1) + "}", methods.end());
            long lines = text.substring(methods.start(), end).lines().count();
            DUE.due(methods.group(2) + " has " + lines + " lines", lines <= 60);
        }
        DUE.due("few methods were found: " + found, found > 40);
    }
}
