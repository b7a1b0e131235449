import java.lang.reflect.Constructor;
import java.lang.reflect.Field;
import java.lang.reflect.Method;
import java.lang.reflect.Modifier;
import java.nio.charset.StandardCharsets;
import java.nio.file.Files;
import java.nio.file.Paths;
import java.util.HashSet;
import java.util.Set;
import java.util.TreeSet;
import java.util.regex.Matcher;
import java.util.regex.Pattern;

/** The document's face, and those rules of LANGUAGE.md that can be looked up in the file or the compiled classes. */
public final class LanguageTest {
    private static final String SOURCE = "src/main/java/HeapWorks.java";

    public static void main(String[] args) throws Exception {
        face();
        classes();
        source();
        lengths();
        Check.done("LanguageTest");
    }

    private static String read(String file) throws Exception {
        return new String(Files.readAllBytes(Paths.get(file)), StandardCharsets.UTF_8);
    }

    // Rule 1: the members that others see are those of the document, with the exceptions that it names.
    private static void face() throws Exception {
        Set<String> due = new TreeSet<>();
        Matcher lines = Pattern.compile("    public (\\w+) (\\w+)\\((.*?)\\)(?: throws (.*?))?;").matcher(read("../shared/DOC.md"));
        while (lines.find()) {
            String args = lines.group(3).replaceAll("(\\w+) \\w+", "$1").replace(" ", "");
            String thrown = lines.group(4) == null ? "" : lines.group(4).replace(" ", "");
            due.add(lines.group(1) + " " + lines.group(2) + "(" + args + ") " + thrown);
        }
        Check.same("methods of the document", due.size(), 51);
        Set<String> got = new TreeSet<>();
        for (Method m : HeapWorks.class.getDeclaredMethods()) {
            if (Modifier.isPrivate(m.getModifiers())) {
                continue;
            }
            StringBuilder s = new StringBuilder(m.getReturnType().getName() + " " + m.getName() + "(");
            for (int k = 0; k < m.getParameterCount(); k++) {
                s.append(k > 0 ? "," : "").append(m.getParameterTypes()[k].getName());
            }
            s.append(") ");
            for (int k = 0; k < m.getExceptionTypes().length; k++) {
                s.append(k > 0 ? "," : "").append(m.getExceptionTypes()[k].getSimpleName());
            }
            Check.same(s + " is public", Modifier.isPublic(m.getModifiers()) && !Modifier.isStatic(m.getModifiers()), true);
            got.add(s.toString());
        }
        Set<String> odd = new TreeSet<>(got);
        odd.removeAll(due);
        due.removeAll(got);
        Check.same("not in the document: " + odd, odd.size(), 0);
        Check.same("not in the class: " + due, due.size(), 0);
        Check.same("final", Modifier.isFinal(HeapWorks.class.getModifiers()), true);
        Constructor<?>[] constructors = HeapWorks.class.getDeclaredConstructors();
        Check.same("one constructor", constructors.length, 1);
        Check.same("without arguments", constructors[0].getParameterCount(), 0);
        for (Field f : HeapWorks.class.getDeclaredFields()) {
            Check.same(f.getName() + " is private", Modifier.isPrivate(f.getModifiers()), !f.getName().equals("NONE"));
        }
    }

    // Rules 1, 2, 5 and 11
    private static void classes() {
        Class<?>[] inside = HeapWorks.class.getDeclaredClasses();
        Check.same("classes", inside.length + 1 <= 12, true);
        Set<String> open = new HashSet<>();
        for (Method m : HeapWorks.class.getDeclaredMethods()) {
            if (Modifier.isPublic(m.getModifiers())) {
                open.add(m.getName());
            }
        }
        look(HeapWorks.class, open);
        for (Class<?> c : inside) {
            Check.same(c + " is static", Modifier.isStatic(c.getModifiers()), true);
            Check.same(c + " is not public", Modifier.isPublic(c.getModifiers()), false);
            look(c, open);
        }
    }

    private static void look(Class<?> c, Set<String> open) {
        int fields = 0;
        for (Field f : c.getDeclaredFields()) {
            if (Modifier.isStatic(f.getModifiers())) {
                Check.same(c + " " + f.getName() + " is final", Modifier.isFinal(f.getModifiers()), true);
            } else {
                fields++;
            }
        }
        Check.same(c + " has fields: " + fields, fields <= 22, true);
        for (Method m : c.getDeclaredMethods()) {
            Check.same(m + " takes seven at most", m.getParameterCount() <= 7, true);
            Check.same(m + " bears a public one's name",
                Modifier.isPrivate(m.getModifiers()) && open.contains(m.getName()), false);
        }
    }

    // Rules 2 to 6: words that the file may not have
    private static void source() throws Exception {
        String text = read(SOURCE);
        String code = text.replaceAll("(?s)/\\*.*?\\*/", "").replaceAll("//[^\n]*", "");
        String[] words = {"catch", "finally", "synchronized", "assert", "\\w+Exact", "getMessage", "package", "volatile",
            "transient", "native", "lambda", "Random", "currentTime", "nanoTime", "Thread", "System.out", "hashCode",
            "toString", "MAX_VALUE", "MIN_VALUE", "double", "float", "instanceof", "String.valueOf", "Character"};
        for (String word : words) {
            Check.same("the word " + word, Pattern.compile("\\b" + word + "\\b").matcher(code).find(), false);
        }
        Check.same("no lambda", code.contains("->"), false);
        Check.same("no method reference", code.contains("::"), false);
        Check.same("no texts joined by +", Pattern.compile("\"\\s*\\+|\\+\\s*\"").matcher(code).find(), false);
        Check.same("ASCII", text.matches("[\\x00-\\x7f]*"), true);
        Matcher imports = Pattern.compile("import (.*?);").matcher(code);
        Set<String> allowed = Set.of("java.util.Arrays", "java.util.NoSuchElementException");
        while (imports.find()) {
            Check.same(imports.group(1), allowed.contains(imports.group(1)), true);
        }
        Matcher thrown = Pattern.compile("throw ([^;]*);").matcher(code);
        int count = 0;
        while (thrown.find()) {
            boolean plain = thrown.group(1).matches("new (IndexOutOfBounds|IllegalArgument|IllegalState|NoSuchElement)Exception\\(\\)");
            Check.same(thrown.group(), plain, true);
            count++;
        }
        Check.same("exceptions are thrown", count > 30, true);
        Matcher library = Pattern.compile("\\b(Arrays|Math|System|Long|Integer)\\.(\\w+)").matcher(code);
        Set<String> known = Set.of("Arrays.fill", "Math.min", "Math.max", "System.arraycopy", "Long.bitCount");
        while (library.find()) {
            Check.same(library.group(), known.contains(library.group()), true);
        }
    }

    // Rule 11: methods stay short
    private static void lengths() throws Exception {
        String[] lines = read(SOURCE).split("\n");
        int begin = -1;
        int end = 0;
        for (int k = 0; k < lines.length; k++) {
            if (lines[k].matches("( {4}| {8})[\\w\\[\\]].*\\{") && lines[k].contains("(")) {
                begin = k;
            }
            boolean closes = lines[k].equals("    }") || lines[k].equals("        }");
            if (begin >= 0 && closes) {
                Check.same("a method of " + (k - begin + 1) + " lines at " + (begin + 1), k - begin + 1 <= 60, true);
                begin = -1;
                end++;
            }
            Check.same("a line of " + lines[k].length() + " at " + (k + 1), lines[k].length() <= 200, true);
        }
        Check.same("methods were found", end > 150, true);
    }
}
