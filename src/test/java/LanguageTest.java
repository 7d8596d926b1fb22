import java.lang.reflect.Array;
import java.lang.reflect.Constructor;
import java.lang.reflect.Field;
import java.lang.reflect.Method;
import java.lang.reflect.Modifier;
import java.nio.file.Files;
import java.nio.file.Path;
import java.util.ArrayDeque;
import java.util.Arrays;
import java.util.IdentityHashMap;
import java.util.List;
import java.util.Set;
import java.util.TreeSet;
import java.util.regex.Matcher;
import java.util.regex.Pattern;

/** The public face, the rules of LANGUAGE.md that can be seen from outside, and how much room an object takes. */
public final class LanguageTest {
    private static final Path SOURCE = Path.of("src/main/java/SevenSpells.java");
    private static final String FACE = "write/1 erase/0 fault/0 land/0 person/2 spell/2 term/3 as/2 laidBy/1 can/3 act/3 undo/0 "
        + "keep/1 back/1 fewest/1 way/3 helpers/2 nights/1 never/0 ahead/1 props/0 gone/2 many/1 farthest/0 row/3 burn/0 "
        + "judge/1 prince/3 dismiss/0 inLine/1 tried/5 forget/0 mayBe/1 next/0 count/1";

    private static int wrong = 0;

    private LanguageTest() {
    }

    public static void main(String[] args) throws Exception {
        face();
        members(SevenSpells.class);
        for (Class<?> inner : SevenSpells.class.getDeclaredClasses()) {
            members(inner);
        }
        classes();
        source(Files.readString(SOURCE));
        room();
        System.out.println("the face, the language and the room: " + wrong + " wrong");
        if (wrong != 0) {
            System.exit(1);
        }
    }

    private static void check(boolean right, String what) {
        if (!right) {
            wrong++;
            System.out.println(what);
        }
    }

    private static void face() {
        Class<?> c = SevenSpells.class;
        check(Modifier.isPublic(c.getModifiers()) && Modifier.isFinal(c.getModifiers()), "the class is not public and final");
        Set<String> methods = new TreeSet<>();
        for (Method m : c.getDeclaredMethods()) {
            if (!Modifier.isPrivate(m.getModifiers())) {
                methods.add(m.getName() + "/" + m.getParameterCount());
                check(Modifier.isPublic(m.getModifiers()) && !Modifier.isStatic(m.getModifiers()), m + " is of no face");
                check(m.getReturnType() == int.class, m + " answers no int");
                check(Arrays.stream(m.getParameterTypes()).allMatch(t -> t == int.class), m + " takes other than ints");
            }
        }
        check(methods.equals(new TreeSet<>(List.of(FACE.split(" ")))), "the methods are " + methods);
        Set<String> constants = new TreeSet<>();
        for (Field f : c.getDeclaredFields()) {
            if (!Modifier.isPrivate(f.getModifiers())) {
                constants.add(f.getName());
                check(f.getType() == int.class && Modifier.isPublic(f.getModifiers()), f + " is of no face");
            }
        }
        check(constants.equals(Set.of("NONE", "UNKNOWN", "OUTSIDE", "NOT", "FULL")), "the constants are " + constants);
        Constructor<?>[] made = c.getDeclaredConstructors();
        check(made.length == 1 && Modifier.isPublic(made[0].getModifiers()) && made[0].getParameterCount() == 0,
            "the constructor is another one");
    }

    private static void members(Class<?> c) {
        Set<String> face = new TreeSet<>();
        for (String one : FACE.split(" ")) {
            face.add(one.substring(0, one.indexOf('/')));
        }
        int fields = 0;
        for (Field f : c.getDeclaredFields()) {
            if (Modifier.isStatic(f.getModifiers())) {
                boolean constant = Set.of("int", "long", "boolean", "char", "String", "int[]", "long[]", "char[]", "byte[]")
                    .contains(f.getType().getSimpleName());
                check(Modifier.isFinal(f.getModifiers()) && constant, f + " is no constant");
            } else {
                fields++;
            }
        }
        check(fields <= 20, c + " has " + fields + " fields");
        for (Method m : c.getDeclaredMethods()) {
            check(m.getParameterCount() <= 7, m + " has too many parameters");
            check(c == SevenSpells.class && Modifier.isPublic(m.getModifiers()) || !face.contains(m.getName()),
                m + " bears the name of a public one");
        }
    }

    private static void classes() {
        Class<?>[] inner = SevenSpells.class.getDeclaredClasses();
        check(inner.length <= 12, "there are " + inner.length + " classes inside");
        for (Class<?> c : inner) {
            check(Modifier.isStatic(c.getModifiers()), c + " is not static");
            check(!Modifier.isPublic(c.getModifiers()) && !Modifier.isProtected(c.getModifiers()), c + " is seen outside");
            check(c.getDeclaredClasses().length == 0, c + " has classes inside");
        }
    }

    private static void source(String text) {
        check(text.chars().allMatch(sign -> sign == '\n' || sign >= 32 && sign < 127), "a sign beyond 127, or a tab");
        String code = text.replaceAll("(?s)/\\*.*?\\*/", " ").replaceAll("//[^\n]*", " ").replaceAll("\"[^\"\n]*\"", "\"\"");
        String[] words = {"throw", "throws", "try", "catch", "finally", "synchronized", "assert", "package", "protected",
            "volatile", "transient", "native", "Object", "Exception", "Random", "Thread", "HashMap", "Character", "record",
            "double", "float", "var", "yield"};
        for (String word : words) {
            check(!Pattern.compile("\\b" + word + "\\b").matcher(code).find(), "the word " + word);
        }
        check(!code.contains("->") && !code.contains("::"), "a lambda or a method reference");
        Matcher imports = Pattern.compile("import ([^;]+);").matcher(code);
        while (imports.find()) {
            check(Set.of("java.util.Arrays", "java.util.ArrayList", "java.util.List").contains(imports.group(1)),
                "the import " + imports.group(1));
        }
        Matcher library = Pattern.compile("\\b(System|Arrays|Math|Integer|Long)\\.(\\w+)").matcher(code);
        while (library.find()) {
            check(Set.of("arraycopy", "fill", "copyOf", "copyOfRange", "max", "min", "abs", "bitCount").contains(library.group(2)),
                library.group());
        }
        check(!Pattern.compile("\\bwhile \\(true\\)|\\bfor \\(;;").matcher(code).find(), "a loop without an end");
        int begin = 0;
        String[] lines = text.split("\n");
        for (int i = 0; i < lines.length; i++) {
            check(lines[i].length() <= 130, "line " + (i + 1) + " is long");
            if (lines[i].matches(" {4}( {4})?[^ ].*\\) \\{")) {
                begin = i;
            }
            if (lines[i].matches(" {4}( {4})?\\}")) {
                check(i - begin <= 60 || lines[begin].contains("class"), "the method at line " + (begin + 1) + " is long");
            }
        }
    }

    /** Counts what one object holds behind its dearest calls: a run has room for 7.3 million fields and elements. */
    private static void room() throws IllegalAccessException {
        SevenSpells x = new SevenSpells();
        String[] texts = {"land 3;frog 0 if weep 0;mute 0 if gone 0 wakes 0", "frog 1 if weep 1;mute 1 if gone 2 wakes 2",
            "frog 2 if weep 2 wakes 0"};
        for (String text : texts) {
            for (char letter : text.toCharArray()) {
                x.write(letter);
            }
            x.land();
            x.farthest();
            for (int set = 0; set < 1 << x.count(1); set++) {
                x.gone(set, 0);
                x.nights(set);
                x.helpers(set, 0);
            }
        }
        IdentityHashMap<Object, Boolean> seen = new IdentityHashMap<>();
        ArrayDeque<Object> queue = new ArrayDeque<>(List.of(x));
        seen.put(x, true);
        long room = 0;
        while (!queue.isEmpty()) {
            Object one = queue.poll();
            if (one.getClass().isArray()) {
                room += Array.getLength(one);
                continue;
            }
            for (Field f : one.getClass().getDeclaredFields()) {
                if (!Modifier.isStatic(f.getModifiers())) {
                    room++;
                    f.setAccessible(true);
                    Object held = f.get(one);
                    if (!f.getType().isPrimitive() && seen.put(held, true) == null) {
                        queue.add(held);
                    }
                }
            }
        }
        check(x.count(1) == 5, "the land for the room has " + x.count(1) + " spells");
        check(room < 125000 && seen.size() < 100, "an object takes " + seen.size() + " objects, " + room + " fields and elements");
    }
}
