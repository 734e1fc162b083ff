import java.io.IOException;
import java.lang.reflect.Method;
import java.lang.reflect.Modifier;
import java.nio.file.Files;
import java.nio.file.Path;
import java.util.Arrays;
import java.util.List;
import java.util.regex.Matcher;
import java.util.regex.Pattern;

// What README.md says: the answers in its example, its list of calls, its commands.
public final class ReadmeTest {
    private static final Pattern BLOCK = Pattern.compile("(?s)```(\\w+)\n(.*?)```");
    private static final Pattern CALL = Pattern.compile("store\\.(\\w+)\\(([^)]*)\\); +// (-?\\w+)(: .*)?");
    // It would run this test again, and that one the next.
    private static final String EVERY_TEST = ".ci/run";

    private static int wrong = 0;

    private static void must(boolean holds, String what) {
        if (!holds) {
            wrong++;
            System.out.println("README.md: not so: " + what);
        }
    }

    public static void main(String[] args) throws Exception {
        String page = Files.readString(Path.of("README.md"));
        int examples = 0;
        int commands = 0;
        Matcher block = BLOCK.matcher(page);
        while (block.find()) {
            List<String> lines = block.group(2).lines().filter(line -> !line.isBlank()).toList();
            if (block.group(1).equals("java")) {
                examples++;
                example(lines);
            } else {
                commands += lines.size();
                runCommands(lines);
            }
        }
        must(examples == 1, "there is one example");
        must(commands > 1, "there are commands that run the tests");
        calls(page);
        System.out.println(wrong == 0 ? "README.md says what is so" : wrong + " things in README.md are not so");
        if (wrong != 0) {
            System.exit(1);
        }
    }

    private static void example(List<String> lines) throws ReflectiveOperationException {
        must(lines.get(0).equals("LevelStore store = new LevelStore();"), "the example makes a store first");
        LevelStore store = new LevelStore();
        for (String line : lines.subList(1, lines.size())) {
            Matcher call = CALL.matcher(line);
            boolean form = call.matches();
            must(form, "a call, and what it answers: " + line);
            if (form) {
                int got = answer(store, call.group(1), call.group(2));
                must(got == told(call.group(3)), line + " (it answers " + got + ")");
            }
        }
    }

    private static int answer(LevelStore store, String name, String list) throws ReflectiveOperationException {
        Object[] arguments = Arrays.stream(list.split(", ")).filter(text -> !text.isEmpty()).map(Integer::valueOf).toArray();
        Class<?>[] types = new Class<?>[arguments.length];
        Arrays.fill(types, int.class);
        return (int) LevelStore.class.getMethod(name, types).invoke(store, arguments);
    }

    private static int told(String answer) throws ReflectiveOperationException {
        boolean constant = Character.isLetter(answer.charAt(0));
        return constant ? LevelStore.class.getField(answer).getInt(null) : Integer.parseInt(answer);
    }

    private static void runCommands(List<String> commands) throws IOException, InterruptedException {
        for (String command : commands) {
            boolean every = command.equals(EVERY_TEST);
            int code = every ? 0 : new ProcessBuilder("bash", "-c", command).inheritIO().start().waitFor();
            must(!every || Files.isExecutable(Path.of(EVERY_TEST)), "there is " + EVERY_TEST);
            must(code == 0, "this command passes: " + command);
        }
    }

    private static void calls(String page) {
        for (Method method : LevelStore.class.getDeclaredMethods()) {
            if (Modifier.isPublic(method.getModifiers())) {
                String names = "\\w+" + ", \\w+".repeat(Math.max(0, method.getParameterCount() - 1));
                String form = "`" + method.getName() + "\\(" + (method.getParameterCount() == 0 ? "" : names) + "\\)`";
                must(Pattern.compile(form).matcher(page).find(), "the list has " + method.getName());
            }
        }
    }
}
