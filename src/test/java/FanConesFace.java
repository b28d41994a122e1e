import java.lang.reflect.Field;
import java.lang.reflect.Method;
import java.lang.reflect.Modifier;
import java.nio.file.Files;
import java.nio.file.Path;
import java.nio.file.Paths;
import java.util.Arrays;
import java.util.Set;
import java.util.TreeSet;
import java.util.regex.Matcher;
import java.util.regex.Pattern;

/** The public face is the document's, and the source keeps to what of LANGUAGE.md a simple look can tell. */
public final class FanConesFace {
    private static final String[] FACE = {
        "int feed(int,int,int,int,int)", "int fan(int)", "int fault()", "int where()", "int about(int)",
        "int measure()", "long ray(int,int)", "int chain(int,int)", "int cone(int,int)", "long load(int,int)",
        "long function(int,int,int,int)", "long piece(int,int,int)", "int broken(int)", "int bent(int)",
        "int alike(int,int)", "long meets(int,int)", "long touches(int,int)", "long rays(int,int)",
        "long points(int,int)", "long inner(int,int)", "long point(int,int,long,int)", "int needs(int,long)",
        "long set(int,int,int)", "boolean fill(int,int)", "boolean adds(int,int,int)", "boolean shifts(int,int,int)",
        "int star(int)", "int cut(int)", "int cutAll()", "int drop(int)", "int lean()", "int undo()",
        "int letter(int,int)", "int size()", "int trouble()"};

    /** What the rules leave out; calls of new arrays and objects belong to fields and constructors alone. */
    private static final String[] FORBIDDEN = {
        "->", "::", "Exact\\(", "\\bfinally\\b", "\\bsynchronized\\b", "\\bassert\\b", "\\bcatch\\b", "static \\{",
        "\\bprotected\\b", "^package\\b", "\\bdouble\\b", "\\bfloat\\b", "System\\.(?!arraycopy)", "\\bRandom\\b",
        "\\bhashCode\\b", "\\btoString\\b", "while \\(true\\)", "for \\(;", "[^\\x00-\\x7f]", "^.{121}"};

    private static int wrong = 0;

    public static void main(String[] args) throws Exception {
        face();
        nested();
        Path path = Paths.get(args.length > 0 ? args[0] : ".", "src", "main", "java", "FanCones.java");
        String[] lines = new String(Files.readAllBytes(path), "UTF-8").split("\n");
        source(lines);
        indices(lines);
        System.out.println(wrong == 0 ? "the face is as it must be" : wrong + " things of the face are wrong");
        if (wrong != 0) {
            System.exit(1);
        }
    }

    private static void need(boolean holds, String what) {
        if (!holds) {
            wrong++;
            System.out.println("wrong: " + what);
        }
    }

    private static void face() {
        Class<?> c = FanCones.class;
        need(Modifier.isPublic(c.getModifiers()) && Modifier.isFinal(c.getModifiers()), "public and final");
        need(c.getDeclaredConstructors().length == 1 && c.getConstructors().length == 1
                && c.getConstructors()[0].getParameterCount() == 0, "one constructor");
        Set<String> found = new TreeSet<>();
        Set<String> names = new TreeSet<>();
        for (Method m : c.getDeclaredMethods()) {
            if (Modifier.isPublic(m.getModifiers())) {
                StringBuilder b = new StringBuilder(m.getReturnType().getName() + " " + m.getName() + "(");
                for (Class<?> p : m.getParameterTypes()) {
                    b.append(b.charAt(b.length() - 1) == '(' ? "" : ",").append(p.getName());
                }
                found.add(b.append(')').toString());
                names.add(m.getName());
            } else {
                need(Modifier.isPrivate(m.getModifiers()), "a private method: " + m);
            }
        }
        need(found.equals(new TreeSet<>(Arrays.asList(FACE))), "methods of the face: " + found);
        for (Method m : c.getDeclaredMethods()) {
            need(Modifier.isPublic(m.getModifiers()) || !names.contains(m.getName()), "a name of its own: " + m);
        }
        for (Field f : c.getDeclaredFields()) {
            boolean told = f.getName().equals("NONE") || f.getName().equals("NOTHING");
            need(told ? Modifier.isPublic(f.getModifiers()) : Modifier.isPrivate(f.getModifiers()), "field " + f);
            need(!Modifier.isStatic(f.getModifiers()) || Modifier.isFinal(f.getModifiers()), "a final field: " + f);
        }
    }

    private static void nested() {
        Class<?>[] all = FanCones.class.getDeclaredClasses();
        need(all.length <= 12, "few classes");
        Set<String> names = new TreeSet<>();
        for (Method m : FanCones.class.getMethods()) {
            names.add(m.getName());
        }
        for (Class<?> c : all) {
            need(Modifier.isStatic(c.getModifiers()) && Modifier.isPrivate(c.getModifiers()), "private static " + c);
            for (Method m : c.getDeclaredMethods()) {
                need(m.getParameterCount() <= 7, "few parameters: " + m);
                need(!names.contains(m.getName()), "a name of its own: " + m);
            }
            int fields = 0;
            for (Field f : c.getDeclaredFields()) {
                boolean constant = Modifier.isStatic(f.getModifiers());
                fields += constant ? 0 : 1;
                need(!constant || Modifier.isFinal(f.getModifiers()), "a final field: " + f);
            }
            need(fields <= 20, "few fields: " + c);
        }
    }

    private static void source(String[] lines) {
        int begun = 0;
        boolean constructor = false;
        for (int i = 0; i < lines.length; i++) {
            String line = lines[i];
            String where = "line " + (i + 1) + ": " + line.trim();
            if (line.matches("\\s*import .*")) {
                need(line.equals("import java.util.NoSuchElementException;"), where);
            }
            if (line.trim().startsWith("*") || line.trim().startsWith("/") || line.matches("\\s*import .*")) {
                continue;
            }
            for (String bad : FORBIDDEN) {
                Matcher m = Pattern.compile(bad).matcher(line);
                need(!m.find(), bad + " in " + where);
            }
            if (opensMethod(line)) {
                begun = i;
                constructor = line.contains("public FanCones(");
            }
            need(!line.matches("    (    )?\\}") || i - begun < 62, "a short method: " + where);
            boolean making = line.matches(".*\\bnew \\w+[\\[(].*");
            boolean field = line.matches("\\s+(private )?final .*= new .*;");
            need(!making || field || constructor || line.contains("throw new NoSuchElementException()"), where);
        }
    }

    private static boolean opensMethod(String line) {
        return line.matches("\\s+(public |private |static )*[\\w\\[\\]]+ ?\\w*\\(.*\\{")
                && !line.matches("\\s+(if|for|while|switch|\\}) .*");
    }

    /** Rule 7: an index is looked at, in the method that uses it and ahead of that, or comes from placeInRing. */
    private static void indices(String[] lines) {
        int uses = 0;
        StringBuilder ahead = new StringBuilder();
        for (int i = 0; i < lines.length; i++) {
            if (opensMethod(lines[i])) {
                ahead.setLength(0);
            }
            Matcher use = Pattern.compile("\\w(?<!\\bnew \\w{1,20})\\[([^\\]]+)\\]").matcher(lines[i]);
            int from = 0;
            while (use.find()) {
                ahead.append(lines[i], from, use.start());
                from = use.start();
                String index = use.group(1);
                boolean isName = index.matches("[a-z]\\w*");
                boolean isSeen = isName && Pattern.compile("\\b" + index + " ([<>]=?|==) |\\b" + index
                        + " = placeInRing\\(").matcher(ahead).find();
                need(isSeen, "an index that was looked at, in line " + (i + 1) + ": " + lines[i].trim());
                uses++;
            }
            ahead.append(lines[i].substring(from)).append('\n');
        }
        need(uses > 50, "indices are found at all");
    }
}
