import java.lang.reflect.Method;
import java.nio.file.Files;
import java.nio.file.Paths;
import java.util.Set;
import java.util.TreeSet;
import java.util.regex.Matcher;
import java.util.regex.Pattern;

/** The example of README.md, carried out line by line: each call answers what stands behind it there. */
public final class FanConesReadme {
    private static final Pattern TELL = Pattern.compile("tell\\(x, \"([^\"]*)\"\\);\\s+// (\\S+)");
    private static final Pattern CALL = Pattern.compile("x\\.(\\w+)\\(([^)]*)\\);\\s+// (\\S+)");
    private static final int FEWEST_LINES = 20;

    public static void main(String[] args) throws Exception {
        String root = args.length > 0 ? args[0] : ".";
        String[] lines = new String(Files.readAllBytes(Paths.get(root, "README.md")), "UTF-8").split("\n");
        int done = example(lines);
        Check.due("README.md", "has lines of an example", done >= FEWEST_LINES ? 1 : 0, 1);
        table(lines);
        Check.end("the example of README.md holds");
    }

    private static int example(String[] lines) throws Exception {
        FanCones x = new FanCones();
        int done = 0;
        for (String line : lines) {
            Matcher tell = TELL.matcher(line);
            Matcher call = CALL.matcher(line);
            if (tell.matches()) {
                Check.due("README.md", line, Check.read(x, tell.group(1)), number(tell.group(2)));
                done++;
            } else if (call.matches()) {
                Check.due("README.md", line, answer(x, call.group(1), call.group(2)), number(call.group(3)));
                done++;
            } else {
                boolean isUnread = line.contains(";") && line.contains("//") && line.contains("x");
                Check.due("README.md", "a line of the example that is not read: " + line, isUnread ? 1 : 0, 0);
            }
        }
        return done;
    }

    private static long answer(FanCones x, String name, String told) throws Exception {
        Method method = methodOf(name);
        String[] parts = told.isEmpty() ? new String[0] : told.split(", ");
        Object[] given = new Object[parts.length];
        for (int i = 0; i < parts.length; i++) {
            boolean isLong = method.getParameterTypes()[i] == long.class;
            if (isLong) {
                given[i] = Long.valueOf(parts[i]);
            } else {
                given[i] = Integer.valueOf(parts[i]);
            }
        }
        return number(method.invoke(x, given).toString());
    }

    private static Method methodOf(String name) {
        for (Method method : FanCones.class.getDeclaredMethods()) {
            if (method.getName().equals(name)) {
                return method;
            }
        }
        throw new IllegalArgumentException("README.md tells of a call that is not there: " + name);
    }

    private static long number(String told) {
        switch (told) {
            case "true": return 1;
            case "false": return 0;
            case "NONE": return FanCones.NONE;
            case "NOTHING": return FanCones.NOTHING;
            default: return Long.parseLong(told);
        }
    }

    /** The first column of the table of calls names every call, and no other. */
    private static void table(String[] lines) {
        Set<String> told = new TreeSet<>();
        for (String line : lines) {
            if (line.startsWith("| `")) {
                Matcher name = Pattern.compile("`(\\w+)`").matcher(line.substring(0, line.indexOf('|', 1)));
                while (name.find()) {
                    told.add(name.group(1));
                }
            }
        }
        Set<String> face = new TreeSet<>();
        for (Method method : FanCones.class.getMethods()) {
            if (method.getDeclaringClass() == FanCones.class) {
                face.add(method.getName());
            }
        }
        Check.due("README.md", "the calls of the table " + told + " are all of " + face, told.equals(face) ? 1 : 0, 1);
    }
}
