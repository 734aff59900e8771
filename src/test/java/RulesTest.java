import java.io.IOException;
import java.lang.reflect.Constructor;
import java.lang.reflect.Field;
import java.lang.reflect.Method;
import java.lang.reflect.Modifier;
import java.nio.charset.StandardCharsets;
import java.nio.file.Files;
import java.nio.file.Path;
import java.util.ArrayList;
import java.util.List;
import java.util.Random;
import java.util.Set;
import java.util.TreeSet;
import java.util.regex.Matcher;
import java.util.regex.Pattern;

/** What can be seen of ../shared/LANGUAGE.md from outside: the face, the words of the source, no call that throws. */
public final class RulesTest {
    private static final Set<String> FACE = Set.of("kind", "wider", "opposite", "ofKind", "alike", "timed", "tale",
        "sort", "label", "tie", "ofTie", "ofTale", "copy", "like", "partner", "answer", "likes", "worth", "same",
        "guess", "ofGuess", "giveUp", "bound", "seek", "sought", "common", "series", "leftOut", "trial");
    private static final Set<String> CONSTANTS = Set.of("NONE", "UNKNOWN", "OUTSIDE", "STATE", "FULL", "NO");
    private static int wrong = 0;

    private static void check(boolean holds, String what) {
        if (!holds) {
            wrong++;
            System.out.println("rule: " + what);
        }
    }

    public static void main(String[] args) throws IOException {
        face();
        source();
        noCallThrows();
        System.out.println(wrong == 0 ? "rules: all hold" : wrong + " rules do not hold");
        if (wrong != 0) {
            System.exit(1);
        }
    }

    private static void face() {
        Class<?> c = LikeTales.class;
        check(Modifier.isPublic(c.getModifiers()) && Modifier.isFinal(c.getModifiers()), "the class is public and final");
        Constructor<?>[] made = c.getDeclaredConstructors();
        check(made.length == 1 && Modifier.isPublic(made[0].getModifiers()) && made[0].getParameterCount() == 0,
            "one public constructor");
        Set<String> open = new TreeSet<>();
        for (Method m : c.getDeclaredMethods()) {
            if (!Modifier.isPrivate(m.getModifiers())) {
                check(open.add(m.getName()), "one method " + m.getName());
                check(Modifier.isPublic(m.getModifiers()) && !Modifier.isStatic(m.getModifiers())
                    && m.getReturnType() == int.class, m.getName() + " is public and answers an int");
            } else {
                check(!FACE.contains(m.getName()), "no private method " + m.getName());
            }
        }
        check(open.equals(FACE), "the face's methods: " + open);
        Set<String> constants = new TreeSet<>();
        for (Field f : c.getDeclaredFields()) {
            if (!Modifier.isPrivate(f.getModifiers())) {
                constants.add(f.getName());
                check(Modifier.isPublic(f.getModifiers()) && Modifier.isStatic(f.getModifiers())
                    && Modifier.isFinal(f.getModifiers()) && f.getType() == int.class, f.getName() + " is a constant");
            }
        }
        check(constants.equals(CONSTANTS), "the face's constants: " + constants);
        check(c.getDeclaredClasses().length <= 12, "some twelve classes");
        for (Class<?> inside : c.getDeclaredClasses()) {
            check(Modifier.isStatic(inside.getModifiers()), inside.getName() + " is static");
            inside(inside);
        }
    }

    private static void inside(Class<?> c) {
        int fields = 0;
        for (Field f : c.getDeclaredFields()) {
            boolean isStatic = Modifier.isStatic(f.getModifiers());
            fields += isStatic ? 0 : 1;
            check(!isStatic || Modifier.isFinal(f.getModifiers()), c.getName() + " has no static state");
        }
        check(fields <= 20, c.getName() + " has some twenty fields");
        for (Method m : c.getDeclaredMethods()) {
            check(!FACE.contains(m.getName()), "no method " + m.getName() + " in " + c.getName());
            check(m.getParameterCount() <= 7, m.getName() + " has at most seven parameters");
        }
    }

    private static void source() throws IOException {
        Path path = Path.of("src/main/java/LikeTales.java");
        String all = Files.readString(path, StandardCharsets.ISO_8859_1);
        for (int i = 0; i < all.length(); i++) {
            check(all.charAt(i) == '\n' || all.charAt(i) >= 32 && all.charAt(i) < 127, "plain signs, at " + i);
        }
        String code = all.replaceAll("(?s)/\\*.*?\\*/", "").replaceAll("//[^\n]*", "");
        for (String word : List.of("import", "package", "try", "catch", "finally", "throw", "throws", "synchronized",
                "assert", "instanceof", "native", "protected", "static \\{", "->", "::", "equals", "hashCode",
                "toString", "String", "Object", "System\\.(?!arraycopy\\b)", "Math\\.(?!max\\b|min\\b|abs\\b)\\w+",
                "Integer\\.(?!bitCount\\b|compare\\b)\\w+", "long", "double", "float", "null")) {
            String edge = Character.isLetter(word.charAt(0)) ? "\\b" : "";
            check(!Pattern.compile(edge + "(" + word + ")").matcher(code).find(), "no " + word);
        }
        int line = 0;
        int began = 0;
        List<Integer> longOnes = new ArrayList<>();
        Pattern head = Pattern.compile("^ {4,8}[\\w\\[\\] ]+\\(.*\\) \\{$");
        for (String text : all.split("\n")) {
            line++;
            check(text.length() <= 120, "line " + line + " is short");
            Matcher m = head.matcher(text);
            if (m.matches()) {
                began = line;
            }
            if (text.matches(" {4,8}\\}") && line - began > 60 && began > 0 && text.startsWith("        }")) {
                longOnes.add(began);
            }
        }
        check(longOnes.isEmpty(), "methods of some sixty lines, but those of lines " + longOnes);
    }

    private static int strange(Random random) {
        switch (random.nextInt(6)) {
            case 0: return Integer.MIN_VALUE + random.nextInt(3);
            case 1: return Integer.MAX_VALUE - random.nextInt(3);
            case 2: return random.nextInt();
            case 3: return random.nextInt(60) - 20;
            default: return random.nextInt(14) - 1;
        }
    }

    private static void noCallThrows() {
        for (int seed = 0; seed < 300; seed++) {
            Random random = new Random(seed);
            LikeTales x = new LikeTales();
            for (int i = 0; i < 512; i++) {
                try {
                    call(x, random);
                } catch (RuntimeException | Error e) {
                    check(false, "no call throws, seed " + seed + ": " + e);
                    return;
                }
            }
        }
    }

    private static void call(LikeTales x, Random random) {
        int a = strange(random), b = strange(random), c = strange(random), d = strange(random);
        switch (random.nextInt(36)) {
            case 0: x.kind(a, b, random.nextBoolean()); break;
            case 1: x.wider(a, b); break;
            case 2: x.opposite(a, b); break;
            case 3: x.ofKind(a, b); break;
            case 4: x.alike(a, b); break;
            case 5: x.timed(a); break;
            case 6: x.tale(a, b); break;
            case 7: x.sort(a, b, c); break;
            case 8: x.label(a, b); break;
            case 9: x.ofTie(a, b, c); break;
            case 10: x.ofTale(a, b); break;
            case 11: x.copy(a, b); break;
            case 12: x.like(a, b, c); break;
            case 13: x.partner(a); break;
            case 14: x.answer(a); break;
            case 15: x.likes(a, b, c, d); break;
            case 16: x.worth(a, b, c, d); break;
            case 17: x.same(a, b); break;
            case 18: x.guess(a); break;
            case 19: x.ofGuess(a, b); break;
            case 20: x.giveUp(); break;
            case 21: x.bound(a, b); break;
            case 22: x.seek(a); break;
            case 23: x.sought(a); break;
            case 24: x.common(a, b, c, d); break;
            case 25: x.series(a, b, c, d); break;
            case 26: x.leftOut(a, b); break;
            case 27: if (random.nextInt(8) == 0) x.trial(a); break;
            default: x.tie(a, b, c, d, random.nextBoolean() ? -1 : strange(random), random.nextInt(12) - 1); break;
        }
    }
}
