import java.io.IOException;
import java.lang.reflect.Field;
import java.lang.reflect.Method;
import java.lang.reflect.Modifier;
import java.nio.file.Files;
import java.nio.file.Path;
import java.util.Set;
import java.util.TreeSet;
import java.util.regex.Matcher;
import java.util.regex.Pattern;

/** The face of the class, and such rules of LANGUAGE.md as a look at the class and its file can tell. */
public final class FaceTest {
    private static final Due DUE = new Due();

    private static final Set<String> METHODS = Set.of("int name(int)", "int parameter(int)", "int term(int,int,int)",
        "int define(int,int)", "int opaque(int,boolean)", "int ofName(int,int)", "int ofTerm(int,int)",
        "long size(int,int)", "int front(int)", "int check(int,int)", "int checked(int)", "int many(int)");
    private static final Set<String> CONSTANTS = Set.of("int UNKNOWN", "int OUTSIDE", "int STATE", "int FULL",
        "int SPENT", "int NONE", "long LOST");

    public static void main(String[] args) throws IOException {
        face();
        staticFields(LazyNames.class);
        for (Class<?> inside : LazyNames.class.getDeclaredClasses()) {
            DUE.due(inside + " is not static", Modifier.isStatic(inside.getModifiers()));
            DUE.due(inside + " is public or protected",
                !Modifier.isPublic(inside.getModifiers()) && !Modifier.isProtected(inside.getModifiers()));
            staticFields(inside);
        }
        source(Files.readString(Path.of("src/main/java/LazyNames.java")));
        DUE.end();
    }

    private static void face() {
        Class<?> face = LazyNames.class;
        DUE.due("the class is not public and final",
            Modifier.isPublic(face.getModifiers()) && Modifier.isFinal(face.getModifiers()));
        DUE.due("constructors", face.getDeclaredConstructors().length, 1);
        DUE.due("public constructors", face.getConstructors().length, 1);
        DUE.due("parameters of the constructor", face.getConstructors()[0].getParameterCount(), 0);
        Set<String> methods = new TreeSet<>(), constants = new TreeSet<>(), names = new TreeSet<>();
        for (Method method : face.getDeclaredMethods()) {
            if (!Modifier.isPrivate(method.getModifiers())) methods.add(signature(method));
            DUE.due("the name of " + method + " stands twice", names.add(method.getName()));
        }
        DUE.due("the methods are " + methods, methods.equals(METHODS));
        for (Field field : face.getDeclaredFields()) {
            if (!Modifier.isPrivate(field.getModifiers())) constants.add(field.getType() + " " + field.getName());
        }
        DUE.due("the constants are " + constants, constants.equals(CONSTANTS));
    }

    private static String signature(Method method) {
        StringBuilder types = new StringBuilder();
        for (Class<?> type : method.getParameterTypes()) types.append(types.length() == 0 ? "" : ",").append(type);
        DUE.due(method + " is not public", Modifier.isPublic(method.getModifiers()));
        return method.getReturnType() + " " + method.getName() + "(" + types + ")";
    }

    private static void staticFields(Class<?> of) {
        for (Field field : of.getDeclaredFields()) {
            if (!Modifier.isStatic(field.getModifiers())) continue;
            DUE.due(field + " is not final", Modifier.isFinal(field.getModifiers()));
            DUE.due(field + " is no plain constant", field.getType().isPrimitive());
        }
    }

    private static void source(String text) {
        String code = text.replaceAll("(?s)/\\*.*?\\*/", "").replaceAll("//[^\n]*", "");
        for (String word : new String[] {"throw", "throws", "try", "catch", "synchronized", "assert", "package",
            "System", "Object", "Random", "Thread", "equals", "hashCode", "toString"}) {
            DUE.due("the word " + word, !Pattern.compile("\\b" + word + "\\b").matcher(code).find());
        }
        DUE.due("a lambda or a method reference", !code.contains("->") && !code.contains("::"));
        Matcher imports = Pattern.compile("import ([^;]*);").matcher(code);
        while (imports.find()) DUE.due("import " + imports.group(1), imports.group(1).equals("java.util.Arrays"));
        DUE.due("a sign beyond 127", text.chars().allMatch(sign -> sign < 128));
        methodsStayShort(text);
    }

    private static void methodsStayShort(String text) {
        Matcher methods = Pattern.compile("(?m)^( +)(?:public |private |static )*[\\w\\[\\]]+ (\\w+)\\([^;=]*\\) \\{$")
            .matcher(text);
        int found = 0;
        while (methods.find()) {
            found++;
            int end = text.indexOf("\n" + methods.group(1) + "}", methods.end());
            long lines = text.substring(methods.start(), end).lines().count();
            DUE.due(methods.group(2) + " has " + lines + " lines", lines <= 60);
        }
        DUE.due("few methods were found: " + found, found > 40);
    }
}
