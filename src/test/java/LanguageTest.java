import java.io.IOException;
import java.lang.management.ManagementFactory;
import java.lang.reflect.Constructor;
import java.lang.reflect.Executable;
import java.lang.reflect.Field;
import java.lang.reflect.Member;
import java.lang.reflect.Method;
import java.lang.reflect.Modifier;
import java.nio.file.Files;
import java.nio.file.Path;
import java.util.ArrayList;
import java.util.Arrays;
import java.util.List;
import java.util.Set;
import java.util.TreeSet;
import java.util.regex.Matcher;
import java.util.regex.Pattern;

/** The public face, and those rules of LANGUAGE.md that can be seen in the class and its text. */
public final class LanguageTest {
    private static final Checks CHECKS = new Checks();
    private static final Path SOURCE = Path.of("src/main/java/BoardCore.java");
    private static final Set<String> CONSTANTS = Set.of(
        "int", "long", "boolean", "char", "String", "int[]", "long[]", "char[]", "byte[]");
    private static final int MOST_LINES = 60;
    private static final int MOST_PARAMETERS = 7;
    private static final int MOST_CLASSES = 12;
    private static final int MOST_FIELDS = 20;
    private static final int ROUNDS = 50;

    private LanguageTest() {
    }

    public static void main(String[] args) throws IOException {
        String text = withoutComments(Files.readString(SOURCE));
        face();
        hidden();
        classesInside();
        staticFields();
        numbersOfThings();
        imports(text);
        library(text);
        words(text);
        lengths(text);
        objects(text);
        room();
        CHECKS.end();
    }

    private static void yes(String what, boolean holds) {
        CHECKS.same(what, holds ? 1 : 0, 1);
    }

    private static String withoutComments(String text) {
        return text.replaceAll("(?s)/\\*.*?\\*/", "").replaceAll("//[^\n]*", "");
    }

    private static List<Class<?>> all() {
        List<Class<?>> all = new ArrayList<>();
        all.add(BoardCore.class);
        for (int i = 0; i < all.size(); i++) {
            all.addAll(Arrays.asList(all.get(i).getDeclaredClasses()));
        }
        return all;
    }

    private static String told(Executable member, String result) {
        StringBuilder text = new StringBuilder("public " + result + "(");
        for (Class<?> type : member.getParameterTypes()) {
            text.append(text.charAt(text.length() - 1) == '(' ? "" : ", ").append(type.getSimpleName());
        }
        text.append(")");
        for (Class<?> type : member.getExceptionTypes()) {
            text.append(" throws ").append(type.getSimpleName());
        }
        return text.append(";").toString();
    }

    private static void face() {
        int modifiers = BoardCore.class.getModifiers();
        yes(Face.CLASS, Modifier.isPublic(modifiers) && Modifier.isFinal(modifiers));
        yes("without a package", BoardCore.class.getPackageName().isEmpty());
        Set<String> there = new TreeSet<>();
        for (Constructor<?> made : BoardCore.class.getDeclaredConstructors()) {
            yes("a public constructor", Modifier.isPublic(made.getModifiers()));
            there.add(told(made, "BoardCore"));
        }
        for (Method method : BoardCore.class.getDeclaredMethods()) {
            if (Modifier.isPublic(method.getModifiers())) {
                yes("no static one: " + method, !Modifier.isStatic(method.getModifiers()));
                there.add(told(method, method.getReturnType().getSimpleName() + " " + method.getName()));
            }
        }
        Set<String> due = new TreeSet<>(Arrays.asList(Face.membersByTypes()));
        yes("the members are " + there + ", due are " + due, there.equals(due));
    }

    /** Rule 1: nothing but the face can be seen, and no private method bears one of its names. */
    private static void hidden() {
        List<Member> others = new ArrayList<>(Arrays.asList(BoardCore.class.getDeclaredFields()));
        Set<String> names = new TreeSet<>();
        for (Method method : BoardCore.class.getDeclaredMethods()) {
            if (Modifier.isPublic(method.getModifiers())) {
                names.add(method.getName());
            } else if (!method.isSynthetic()) {
                others.add(method);
            }
        }
        for (Member member : others) {
            yes("private: " + member, Modifier.isPrivate(member.getModifiers()));
        }
        for (Class<?> one : all()) {
            for (Method method : one.getDeclaredMethods()) {
                boolean own = one == BoardCore.class && Modifier.isPublic(method.getModifiers());
                yes("not a name of the face: " + method, own || !names.contains(method.getName()));
            }
        }
    }

    /** Rules 1 and 2. */
    private static void classesInside() {
        for (Class<?> one : all()) {
            int modifiers = one.getModifiers();
            boolean isOpen = Modifier.isPublic(modifiers) || Modifier.isProtected(modifiers);
            boolean isFit = one == BoardCore.class || !isOpen && Modifier.isStatic(modifiers);
            yes("private or package-visible, and static: " + one, isFit);
            for (Field field : one.getDeclaredFields()) {
                boolean plain = field.getType().isPrimitive() || field.getType() == String.class;
                yes("an enum's field: " + field, !one.isEnum() || Modifier.isStatic(field.getModifiers()) || plain);
            }
        }
    }

    /** Rule 5. */
    private static void staticFields() {
        for (Class<?> one : all()) {
            for (Field field : one.getDeclaredFields()) {
                if (Modifier.isStatic(field.getModifiers()) && !field.isSynthetic()) {
                    yes("final: " + field, Modifier.isFinal(field.getModifiers()));
                    boolean constant = field.isEnumConstant() || CONSTANTS.contains(field.getType().getSimpleName());
                    yes("a constant: " + field, constant);
                }
            }
        }
    }

    /** Rule 11. */
    private static void numbersOfThings() {
        yes("classes: " + all().size(), all().size() <= MOST_CLASSES);
        for (Class<?> one : all()) {
            int fields = 0;
            for (Field field : one.getDeclaredFields()) {
                fields += Modifier.isStatic(field.getModifiers()) ? 0 : 1;
            }
            yes("fields of " + one + ": " + fields, fields <= MOST_FIELDS);
            for (Method method : one.getDeclaredMethods()) {
                yes("parameters of " + method, method.getParameterCount() <= MOST_PARAMETERS);
            }
        }
    }

    private static void imports(String text) {
        Matcher imports = Pattern.compile("(?m)^import (.*);").matcher(text);
        while (imports.find()) {
            Set<String> allowed = Set.of("java.util.Arrays", "java.util.ArrayList", "java.util.List");
            yes("import of " + imports.group(1), allowed.contains(imports.group(1)));
        }
        yes("no package", !text.contains("package "));
    }

    /** Rule 4: of other classes only these functions are called. */
    private static void library(String text) {
        Set<String> allowed = Set.of("System.arraycopy", "Arrays.fill", "Arrays.copyOf", "Arrays.copyOfRange");
        Set<String> own = new TreeSet<>();
        for (Class<?> one : all()) {
            own.add(one.getSimpleName());
            for (Field field : one.getDeclaredFields()) {
                if (field.isEnumConstant()) {
                    own.add(field.getName());
                }
            }
        }
        Matcher calls = Pattern.compile("\\b([A-Z]\\w*)\\.([a-z]\\w*)").matcher(text);
        while (calls.find()) {
            boolean isAllowed = own.contains(calls.group(1)) || allowed.contains(calls.group());
            yes("call of " + calls.group(), isAllowed);
        }
    }

    /** Rules 2, 6, 10 and 13. */
    private static void words(String text) {
        String[] refused = {
            "finally", "synchronized", "assert", "try", "catch", "native", "volatile", "hashCode", "toString", "equals",
        };
        for (String word : refused) {
            yes("no " + word, !Pattern.compile("\\b" + word + "\\b").matcher(text).find());
        }
        yes("no lambda and no arrow", !text.contains("->"));
        yes("no method reference", !text.contains("::"));
        yes("no static initialiser", !text.contains("static {"));
        Matcher thrown = Pattern.compile("throw ([^;]*);").matcher(text);
        while (thrown.find()) {
            Set<String> allowed = Set.of("new IllegalArgumentException()", "new IndexOutOfBoundsException()");
            yes("throw " + thrown.group(1), allowed.contains(thrown.group(1)));
        }
    }

    /** Rule 11: how long the methods are. */
    private static void lengths(String text) {
        String[] lines = text.split("\n");
        Pattern head = Pattern.compile("^( +)[\\w<>\\[\\] ]+\\([^;]*\\)[\\w ]* \\{$");
        for (int i = 0; i < lines.length; i++) {
            Matcher method = head.matcher(lines[i]);
            boolean isHead = method.find() && !lines[i].matches(" *(if|for|while|switch|}).*");
            if (isHead) {
                int end = i;
                while (!lines[end].equals(method.group(1) + "}")) {
                    end++;
                }
                yes("lines of" + lines[i], end - i + 1 <= MOST_LINES);
            }
        }
    }

    /** Rule 12: what is made is made by constructors, once for each board, but for what is thrown. */
    private static void objects(String text) {
        Matcher made = Pattern.compile("(\\S+) (\\S+) new (\\w+)").matcher(text.replaceAll("\\s+", " "));
        while (made.find()) {
            boolean thrown = made.group(2).equals("throw");
            boolean kept = made.group(2).equals("=") && made.group(1).matches("\\w+");
            yes("new " + made.group(3), thrown || kept);
        }
    }

    /** The one room of all calls: no call makes an object. */
    private static void room() {
        if (!(ManagementFactory.getThreadMXBean() instanceof com.sun.management.ThreadMXBean)) {
            return;
        }
        com.sun.management.ThreadMXBean beans = (com.sun.management.ThreadMXBean) ManagementFactory.getThreadMXBean();
        if (!beans.isThreadAllocatedMemorySupported() || !beans.isThreadAllocatedMemoryEnabled()) {
            return;
        }
        long self = Thread.currentThread().getId();
        long made = 0;
        // The first round makes things of the virtual machine itself.
        for (int round = 0; round < 2; round++) {
            BoardCore board = busy();
            long before = beans.getThreadAllocatedBytes(self);
            int steps = use(board);
            made = beans.getThreadAllocatedBytes(self) - before;
            CHECKS.same("steps", steps, ROUNDS * 3000);
        }
        // An object in each of the steps would be millions of bytes.
        yes("bytes made by calls: " + made, made < 100_000);
    }

    /** A board that does many kinds of instructions, exceptions among them, again and again. */
    private static BoardCore busy() {
        BoardCore b = Board.with(
            0x41F8, 0x0C00, 0x20FC, 0x1234, 0x5678, 0x48E7, 0xFFFE, 0x4CDF, 0x7FFF, 0xC0FC, 0x0003, 0x80FC, 0x0007,
            0xE388, 0x4E41, 0x4AFC, 0xC101, 0x4181, 0x6002, 0x4E71, 0x60D6);
        // Behind an exception of its own the program goes on a word further, behind an interrupt where it was.
        for (int n = 3; n < 48; n++) {
            if (n >= 24 && n < 32) {
                Board.code(b, Board.vector(n), 0x4E73);
            } else {
                Board.code(b, Board.vector(n), 0x54AF, 0x0002, 0x4E73);
            }
        }
        b.put(15, 0xB00);
        return b;
    }

    private static int use(BoardCore board) {
        int steps = 0;
        for (int i = 0; i < ROUNDS; i++) {
            board.want(i % 8);
            steps += board.step(3000);
            board.put(i % 8, board.register(i % 20));
            board.write(0xD00 + 4 * i, board.read(4 * i, 4), 4);
            board.exceptions(board.state());
            board.sum();
            if (i % 10 == 0) {
                board.reset();
                board.put(15, 0xB00);
            }
        }
        return steps;
    }
}
