import java.lang.reflect.Constructor;
import java.lang.reflect.Field;
import java.lang.reflect.Method;
import java.lang.reflect.Modifier;
import java.nio.file.Files;
import java.nio.file.Path;
import java.util.ArrayList;
import java.util.Arrays;
import java.util.HashSet;
import java.util.List;
import java.util.Set;
import java.util.TreeSet;
import java.util.regex.Matcher;
import java.util.regex.Pattern;

/** The face of the document, and the rules of the language as far as they can be seen from outside. */
public final class LanguageTest {
    private static int wrong = 0;

    private static final String[] FACE = {"feed(long,int)", "read()", "fault()", "add()", "remake(int,int)", "kind(int,int)",
        "kindNamed(long)", "function(int,int)", "node(int,int,int)", "branch(int,int,int)", "missing(int)", "unreached(int,int)",
        "whole(int)", "truth(int)", "letters(long)", "nothing()", "make(int,int,int,int,int)", "value(int,int)", "alike(int,int)",
        "sort(int,int,int,int)", "plain(int,int,int,int)", "told(int)", "guard(int)", "bound(int)", "count(int)"};

    private static void must(boolean holds, String rule) {
        if (!holds) {
            wrong++;
            System.out.println("not kept: " + rule);
        }
    }

    private static String signature(Method m) {
        List<String> types = new ArrayList<>();
        for (Class<?> type : m.getParameterTypes()) {
            types.add(type.getName());
        }
        return m.getName() + "(" + String.join(",", types) + ")";
    }

    private static void face() {
        Class<?> c = LetterPost.class;
        must(Modifier.isPublic(c.getModifiers()) && Modifier.isFinal(c.getModifiers()), "public and final");
        Set<String> found = new TreeSet<>();
        Set<String> names = new HashSet<>();
        for (Method m : c.getDeclaredMethods()) {
            if (Modifier.isPublic(m.getModifiers())) {
                found.add(signature(m));
                names.add(m.getName());
                must(m.getReturnType() == int.class && !Modifier.isStatic(m.getModifiers()), m.getName() + " answers an int");
            } else {
                must(Modifier.isPrivate(m.getModifiers()), m.getName() + " is private");
            }
        }
        must(found.equals(new TreeSet<>(Arrays.asList(FACE))), "the methods of the face: " + found);
        Constructor<?>[] made = c.getDeclaredConstructors();
        must(made.length == 1 && Modifier.isPublic(made[0].getModifiers()) && made[0].getParameterCount() == 0, "the constructor");
        Set<String> constants = new TreeSet<>();
        for (Field f : c.getDeclaredFields()) {
            if (Modifier.isPublic(f.getModifiers())) {
                constants.add(f.getName());
            } else {
                must(Modifier.isPrivate(f.getModifiers()), f.getName() + " is private");
            }
        }
        must(constants.equals(new TreeSet<>(Arrays.asList("BAD", "NO", "FULL", "NONE"))), "the constants: " + constants);
        inside(c, names);
    }

    private static void inside(Class<?> c, Set<String> publicNames) {
        must(c.getDeclaredClasses().length <= 11, "twelve classes");
        for (Class<?> in : c.getDeclaredClasses()) {
            must(Modifier.isStatic(in.getModifiers()) && !Modifier.isPublic(in.getModifiers()), in + " is static and not public");
            for (Method m : in.getDeclaredMethods()) {
                must(!publicNames.contains(m.getName()), m + " bears the name of a public method");
            }
        }
        for (Class<?> in : c.getDeclaredClasses()) {
            int fields = 0;
            for (Field f : in.getDeclaredFields()) {
                boolean constant = Modifier.isStatic(f.getModifiers());
                must(!constant || Modifier.isFinal(f.getModifiers()), f + " is final");
                fields += constant ? 0 : 1;
            }
            must(fields <= 20, in + " has twenty fields at most, not " + fields);
        }
    }

    /** The source without comments and with empty texts. */
    private static String bare(String source) {
        return source.replaceAll("(?s)/\\*.*?\\*/", " ").replaceAll("//[^\n]*", " ").replaceAll("'\\\\?.'", "' '")
            .replaceAll("\"(\\\\.|[^\"\\\\])*\"", "\"\"");
    }

    private static void words(String code) {
        String[] never = {"throw", "throws", "try", "catch", "finally", "synchronized", "assert", "volatile", "transient",
            "native", "protected", "package", "interface", "double", "float", "Object", "Exception", "Thread", "Random", "var",
            "equals", "hashCode", "toString", "instanceof", "record", "yield", "goto", "sealed", "permits"};
        for (String word : never) {
            must(!Pattern.compile("\\b" + word + "\\b").matcher(code).find(), "no " + word);
        }
        must(!code.contains("->") && !code.contains("::") && !code.contains("@"), "no lambda, method reference, annotation");
        must(!Pattern.compile("Exact\\b").matcher(code).find(), "nothing that ends in Exact");
        must(!Pattern.compile("while\\s*\\(\\s*true|for\\s*\\(\\s*;").matcher(code).find(), "every loop has an end");
        must(!Pattern.compile("\"\"\\s*\\+|\\+\\s*\"\"").matcher(code).find(), "no texts joined by +");
        must(!Pattern.compile("\\[\\s*\\]\\s*\\[").matcher(code).find(), "arrays of one dimension");
        Matcher imports = Pattern.compile("import\\s+([\\w.*]+);").matcher(code);
        while (imports.find()) {
            must(imports.group(1).matches("java\\.util\\.(Arrays|ArrayList|List)"), "import " + imports.group(1));
        }
        Matcher library = Pattern.compile("\\b(Arrays|Math|Long|Integer|System)\\.(\\w+)").matcher(code);
        while (library.find()) {
            must(library.group().matches("Arrays\\.(fill|copyOf|copyOfRange)|Math\\.(min|max|abs)|System\\.arraycopy"
                + "|Long\\.(numberOfTrailingZeros|numberOfLeadingZeros|MIN_VALUE)|Integer\\.(MIN_VALUE|MAX_VALUE)"),
                "library " + library.group());
        }
    }

    private static void methods(String code) {
        Matcher m = Pattern.compile("\n( {4}| {8})(?:(?:public|private|static|final) )*(?:[\\w\\[\\]]+ )?(\\w+)\\(([^)]*)\\) \\{\n")
            .matcher(code);
        int found = 0;
        while (m.find()) {
            found++;
            int end = code.indexOf("\n" + m.group(1) + "}", m.end());
            int lines = code.substring(m.end(), Math.max(end, m.end())).split("\n").length;
            must(lines <= 60, m.group(2) + " has sixty lines at most, not " + lines);
            must(m.group(3).split(",").length <= 7, m.group(2) + " takes seven parameters at most");
        }
        must(found > 100, "methods are found: " + found);
    }

    public static void main(String[] args) throws Exception {
        face();
        String code = bare(Files.readString(Path.of("src/main/java/LetterPost.java")));
        words(code);
        methods(code);
        System.out.println(wrong == 0 ? "all rules are kept" : wrong + " rules are not kept");
        if (wrong != 0) {
            System.exit(1);
        }
    }
}
