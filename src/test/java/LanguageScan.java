import java.lang.reflect.Constructor;
import java.lang.reflect.Field;
import java.lang.reflect.Method;
import java.lang.reflect.Modifier;
import java.nio.charset.StandardCharsets;
import java.nio.file.Files;
import java.nio.file.Path;
import java.util.Arrays;
import java.util.TreeSet;
import java.util.regex.Matcher;
import java.util.regex.Pattern;

/** What of LANGUAGE.md can be seen by looking at the source and at the compiled class. */
public final class LanguageScan {
    static final String FACE = "feed field fault cell pair why by lead wall put mood undo judge perform day soonest way "
        + "cheapest cheapWay rows needed errands errandWay reach stands farthest round spans forces best power tried many "
        + "attempt moods chance likeliest numbers write lists image restore count";
    static final String LONGS = " rows needed reach round power tried chance write ";
    static int wrong = 0;

    static void must(boolean holds, String rule) {
        if (!holds) {
            wrong++;
            System.out.println("not kept: " + rule);
        }
    }

    public static void main(String[] args) throws Exception {
        Path file = Path.of(args.length > 0 ? args[0] : ".", "src/main/java/TwinSpan.java");
        String source = new String(Files.readAllBytes(file), StandardCharsets.UTF_8);
        signs(source);
        String bare = withoutTexts(source);
        words(bare);
        methods(bare);
        face();
        for (Class<?> c : TwinSpan.class.getDeclaredClasses()) {
            must(Modifier.isStatic(c.getModifiers()) && !Modifier.isPublic(c.getModifiers()), "rules 1, 2: " + c);
            must(c.getDeclaredClasses().length == 0, "no classes within " + c);
            members(c);
        }
        members(TwinSpan.class);
        must(TwinSpan.class.getDeclaredClasses().length <= 11, "rule 11: some twelve classes");
        System.out.println(wrong == 0 ? "the language is kept to" : wrong + " rules are not kept to");
        if (wrong != 0) {
            System.exit(1);
        }
    }

    static void signs(String source) {
        for (int i = 0; i < source.length(); i++) {
            if (source.charAt(i) > 126 || source.charAt(i) == 9) {
                must(false, "a sign that is none of ASCII at " + i);
            }
        }
    }

    /** Comments and what stands in texts and signs become blanks. */
    static String withoutTexts(String source) {
        Matcher m = Pattern.compile("/\\*.*?\\*/|//[^\n]*|\"(\\\\.|[^\"\\\\])*\"|'(\\\\.|[^'\\\\])+'", Pattern.DOTALL).matcher(source);
        StringBuilder s = new StringBuilder();
        int from = 0;
        while (m.find()) {
            s.append(source, from, m.start());
            s.append(m.group().replaceAll("[^\n]", " "));
            from = m.end();
        }
        return s.append(source.substring(from)).toString();
    }

    static void words(String bare) {
        for (String word : ("throw throws try catch finally assert synchronized volatile transient native yield var "
            + "record enum interface abstract extends implements package protected Object System\\.out Exception Error "
            + "Throwable Random Thread Class Iterator HashMap Map Set Double Float double float").split(" ")) {
            must(!Pattern.compile("\\b" + word + "\\b").matcher(bare).find(), "no " + word);
        }
        must(!bare.contains("->") && !bare.contains("::"), "rule 2: no lambda, no method reference");
        must(!bare.contains("@"), "no annotations");
        must(!Pattern.compile("\\w+Exact\\b").matcher(bare).find(), "rule 4: no Exact functions");
        must(!Pattern.compile("\\)\\s*\\{\\s*@?Override").matcher(bare).find(), "no anonymous classes");
        Matcher imports = Pattern.compile("import ([^;]+);").matcher(bare);
        while (imports.find()) {
            must(Arrays.asList("java.util.Arrays", "java.util.ArrayList", "java.util.List").contains(imports.group(1)),
                "rule 4: import " + imports.group(1));
        }
        Matcher calls = Pattern.compile("\\b(Math|Long|Integer|Arrays|System)\\.(\\w+)").matcher(bare);
        while (calls.find()) {
            must(Arrays.asList("Math.max", "Math.min", "Math.abs", "Long.bitCount", "Integer.bitCount", "Arrays.fill",
                "Arrays.copyOf", "System.arraycopy").contains(calls.group()), "rule 4: " + calls.group());
        }
        must(!Pattern.compile("for \\(;|while \\(true\\)").matcher(bare).find(), "rule 9: loops without an end");
    }

    static void methods(String bare) {
        String[] lines = bare.split("\n", -1);
        Pattern head = Pattern.compile("^( {4}| {8})(?=\\S)(?!.*\\bclass\\b)(?!.*=)[\\w\\[\\] ]*?(\\w+)\\(([^)]*)\\) \\{$");
        TreeSet<String> names = new TreeSet<>(Arrays.asList(FACE.split(" ")));
        for (int i = 0; i < lines.length; i++) {
            Matcher m = head.matcher(lines[i]);
            if (!m.find() || Arrays.asList("if", "for", "while", "switch").contains(m.group(2))) {
                continue;
            }
            String indent = m.group(1);
            int end = i;
            while (end < lines.length && !lines[end].equals(indent + "}")) {
                end++;
            }
            must(end - i < 60, "rule 11: " + m.group(2) + " has " + (end - i) + " lines");
            must(m.group(3).isEmpty() || m.group(3).split(",").length <= 7, "rule 11: parameters of " + m.group(2));
            if (!lines[i].trim().startsWith("public")) {
                must(!names.contains(m.group(2)), "rule 1: a private method of the name " + m.group(2));
            }
        }
    }

    static void face() {
        TreeSet<String> seen = new TreeSet<>();
        must(Modifier.isFinal(TwinSpan.class.getModifiers()) && Modifier.isPublic(TwinSpan.class.getModifiers()), "rule 1: public final");
        for (Method m : TwinSpan.class.getDeclaredMethods()) {
            if (Modifier.isPrivate(m.getModifiers())) {
                continue;
            }
            must(Modifier.isPublic(m.getModifiers()) && !Modifier.isStatic(m.getModifiers()), "rule 1: " + m);
            must(seen.add(m.getName()), "rule 1: twice " + m);
            must(m.getReturnType() == (LONGS.contains(" " + m.getName() + " ") ? long.class : int.class), "the face: " + m);
            for (int i = 0; i < m.getParameterTypes().length; i++) {
                boolean isLong = m.getName().equals("write") && i == 2;
                must(m.getParameterTypes()[i] == (isLong ? long.class : int.class), "the face: " + m);
            }
        }
        must(seen.equals(new TreeSet<>(Arrays.asList(FACE.split(" ")))), "the face: " + seen);
        Constructor<?>[] makers = TwinSpan.class.getDeclaredConstructors();
        must(makers.length == 1 && Modifier.isPublic(makers[0].getModifiers()) && makers[0].getParameterCount() == 0, "the constructor");
    }

    static void members(Class<?> c) {
        int fields = 0;
        for (Field f : c.getDeclaredFields()) {
            if (Modifier.isStatic(f.getModifiers())) {
                must(Modifier.isFinal(f.getModifiers()), "rule 5: " + f);
            } else {
                fields++;
            }
            boolean isFace = f.getName().equals("NONE");
            must(c != TwinSpan.class || isFace || Modifier.isPrivate(f.getModifiers()), "rule 1: " + f);
            String type = f.getType().getName();
            must(type.matches("int|long|boolean|char|java.lang.String|TwinSpan\\$\\w+|\\[[ZIJBC]|\\[\\[J|\\[LTwinSpan\\$\\w+;"), "rule 3: " + f);
        }
        must(fields <= 20, "rule 11: fields of " + c + ": " + fields);
    }
}
