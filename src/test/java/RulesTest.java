import java.io.IOException;
import java.lang.reflect.Field;
import java.lang.reflect.Method;
import java.lang.reflect.Modifier;
import java.nio.file.Files;
import java.nio.file.Path;
import java.util.Random;
import java.util.Set;
import java.util.TreeSet;
import java.util.regex.Matcher;
import java.util.regex.Pattern;

/** The document's face, the rules of LANGUAGE.md as far as a look at the source can tell, and long runs. */
public final class RulesTest {
    private static final Path SOURCE = Path.of("src/main/java/SkirmishGrid.java");
    private static final Path DOCUMENT = Path.of("../shared/DOC.md");

    public static void main(String[] arguments) throws IOException {
        String source = Files.readString(SOURCE);
        String code = source.replaceAll("(?s)/\\*.*?\\*/", "").replaceAll("//[^\n]*", "")
                .replaceAll("\"[^\"\n]*\"", "\"\"").replaceAll("'[^'\n]*'", "' '");
        face(source);
        members();
        words(code);
        calls(code);
        methods(code);
        longRuns();
        Check.finish();
    }

    private static String flat(String text) {
        return text.replaceAll("\\s+", " ");
    }

    private static void face(String source) throws IOException {
        String document = Files.readString(DOCUMENT);
        String block = document.substring(document.indexOf("public final class"), document.indexOf("## Description"));
        String all = flat(source);
        int count = 0;
        Matcher line = Pattern.compile("    (public [^;]*);").matcher(block);
        while (line.find()) {
            count++;
            Check.same("the face has " + line.group(1), true, all.contains(flat(line.group(1)) + " {"));
        }
        Check.same("the document's face was found", true, count > 30);
        int open = 0;
        for (Method method : SkirmishGrid.class.getDeclaredMethods()) {
            open += Modifier.isPrivate(method.getModifiers()) || method.isSynthetic() ? 0 : 1;
        }
        Check.same("no other methods that are not private", count - 1, open);
    }

    private static void members() {
        Set<String> open = new TreeSet<>();
        for (Method method : SkirmishGrid.class.getDeclaredMethods()) {
            if (Modifier.isPublic(method.getModifiers())) {
                open.add(method.getName());
            }
        }
        Class<?>[] inside = SkirmishGrid.class.getDeclaredClasses();
        Check.same("at most twelve classes", true, inside.length < 12);
        for (Field field : SkirmishGrid.class.getDeclaredFields()) {
            int modifiers = field.getModifiers();
            Check.same(field + " is private", true, Modifier.isPrivate(modifiers));
            Check.same(field + " is final if it is static", true, !Modifier.isStatic(modifiers) || Modifier.isFinal(modifiers));
        }
        for (Class<?> one : inside) {
            Check.same(one + " is static", true, Modifier.isStatic(one.getModifiers()));
            Check.same(one + " is not public", false, Modifier.isPublic(one.getModifiers()));
            for (Method method : one.getDeclaredMethods()) {
                Check.same(method + " has a name of the face", false, open.contains(method.getName()));
                Check.same("parameters of " + method, true, method.getParameterCount() <= 7);
            }
            int fields = 0;
            for (Field field : one.getDeclaredFields()) {
                fields += Modifier.isStatic(field.getModifiers()) ? 0 : 1;
            }
            Check.same("at most twenty fields in " + one, true, fields <= 20);
        }
        for (Method method : SkirmishGrid.class.getDeclaredMethods()) {
            Check.same(method + " is private with a name of the face", false,
                    Modifier.isPrivate(method.getModifiers()) && open.contains(method.getName()));
        }
    }

    private static void words(String code) {
        for (String word : new String[] {"synchronized", "assert", "finally", "var", "instanceof", "record", "yield",
            "try", "catch", "package", "protected", "native", "volatile", "transient", "strictfp", "lambda",
            "Float", "Double", "Character", "Boolean", "Object", "Class", "Random", "Thread", "long", "double\\[\\]"}) {
            Check.same("the word " + word, false, Pattern.compile("\\b" + word + "\\b(?!\\])").matcher(code).find());
        }
        Check.same("lambdas", false, code.contains("->"));
        Check.same("references to methods", false, code.contains("::"));
        Check.same("tabs", false, code.contains("\t"));
        Check.same("one import", "import java.util.NoSuchElementException;",
                String.join("", code.lines().filter(line -> line.startsWith("import")).toList()));
        Check.same("static blocks", false, Pattern.compile("static\\s*\\{").matcher(code).find());
        for (char sign : code.toCharArray()) {
            if (sign > 126) {
                Check.fail("a sign beyond 126");
            }
        }
    }

    /** New arrays and objects come only from fields and constructors; what throws is an object too. */
    private static void calls(String code) {
        Set<String> library = new TreeSet<>();
        Matcher call = Pattern.compile("\\b(Math|System|Integer|Arrays|String)\\.(\\w+)").matcher(code);
        while (call.find()) {
            library.add(call.group());
        }
        library.removeAll(Set.of("Math.abs", "Math.max", "Math.min", "System.arraycopy"));
        Check.same("calls of the library", "[]", library.toString());
        for (String line : code.lines().toList()) {
            if (line.contains("new ")) {
                String text = line.trim();
                Check.same("made in: " + text, true, text.matches("(default: )?throw new .*") || text.startsWith("private final ")
                        || text.startsWith("final ") || text.matches("(before|units)\\[\\w+\\] = new (Fight|Unit)\\(\\w*\\);"));
            }
        }
    }

    private static void methods(String code) {
        int start = -1;
        int number = 0;
        for (String line : code.lines().toList()) {
            number++;
            if (line.matches(" {4}( {4})?\\S.*\\) (throws .*)?\\{") && !line.matches("\\s*(if|for|while|switch|\\}).*")) {
                start = number;
            }
            if (line.matches(" {4}( {4})?\\}") && start > 0) {
                Check.same("lines of the method at line " + start, true, number - start <= 60);
                start = -1;
            }
        }
    }

    /** Beyond the promised calls the answers are free, but still no call may throw by itself. */
    private static void longRuns() {
        for (int run = 0; run < 30; run++) {
            Random random = new Random(run);
            SkirmishGrid game = Games.with(Games.on(run % 2 == 0 ? ".^o~./...../.#.#./...../....." : "^^^^/..../^^^^/....", run),
                    Games.man(0, 2, 0), Games.man(1, 2, 3), Games.man(0, 3, 4), Games.man(1, 1, 7), Games.man(1, 0, 12));
            game.begin();
            for (int i = 0; i < 4000; i++) {
                try {
                    anyCall(game, random);
                } catch (RuntimeException e) {
                    String name = e.getClass().getSimpleName();
                    Check.same("long run " + run + ": " + e, true, e.getStackTrace()[0].getMethodName().startsWith("require")
                            || Set.of("IllegalStateException", "IllegalArgumentException", "IndexOutOfBoundsException",
                            "UnsupportedOperationException", "NoSuchElementException").contains(name));
                }
            }
        }
    }

    private static void anyCall(SkirmishGrid game, Random random) {
        int cell = random.nextInt(26) - 1;
        int unit = random.nextInt(7) - 1;
        switch (random.nextInt(20)) {
            case 0: game.move(cell); break;
            case 1: game.guard(); break;
            case 2: game.watch(); break;
            case 3: game.throwAt(cell); break;
            case 4: if (random.nextInt(40) == 0) { game.attack(unit); } break;
            case 5: game.undo(); break;
            case 6: if (random.nextInt(20) == 0) { game.isReplayed(); } break;
            case 7: if (random.nextInt(50) == 0) { game.snapshot(); } break;
            case 8: if (random.nextInt(50) == 0) { game.restore(); } break;
            case 9: game.pathCell(cell, unit); break;
            case 10: game.storeHealths(unit, cell > 5); break;
            case 11: game.copyHealths(unit, cell); break;
            case 12: game.storedBits(unit, cell); break;
            case 13: game.reload(); break;
            default: game.endTurn(); break;
        }
    }
}
