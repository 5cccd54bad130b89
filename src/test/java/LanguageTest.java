import java.io.IOException;
import java.lang.reflect.Constructor;
import java.lang.reflect.Field;
import java.lang.reflect.Method;
import java.lang.reflect.Modifier;
import java.nio.file.Files;
import java.nio.file.Path;
import java.util.Set;
import java.util.TreeSet;
import java.util.regex.Matcher;
import java.util.regex.Pattern;

/** The face that the document lists, and what LANGUAGE.md rules out, as far as a reader of text can tell. */
public final class LanguageTest {
    private static final Path DOC = Path.of("../shared/DOC.md");
    private static final Path SOURCE = Path.of("src/main/java/ParkingTrees.java");

    public static void main(String[] args) throws IOException {
        face();
        source();
        anyArguments();
        Kit.finish();
    }

    private static void face() throws IOException {
        Set<String> told = new TreeSet<>();
        Matcher lines = Pattern.compile("    public (int|long) (\\w+)\\((.*)\\);").matcher(Files.readString(DOC));
        while (lines.find()) {
            told.add(lines.group(1) + " " + lines.group(2) + "(" + lines.group(3).replaceAll(" \\w+(,|$)", "$1") + ")");
        }
        Set<String> found = new TreeSet<>();
        Set<String> names = new TreeSet<>();
        for (Method method : ParkingTrees.class.getDeclaredMethods()) {
            if (Modifier.isPublic(method.getModifiers())) {
                found.add(method.getReturnType() + " " + method.getName() + "("
                    + parameters(method.getParameterTypes()) + ")");
                names.add(method.getName());
            } else {
                Kit.due(method + " is private", Modifier.isPrivate(method.getModifiers()) ? 1 : 0, 1);
            }
        }
        Kit.due("methods of the document", told.size(), 82);
        Kit.due("the face is the document's: " + told + found, told.equals(found) ? 1 : 0, 1);
        Constructor<?>[] made = ParkingTrees.class.getDeclaredConstructors();
        Kit.due("constructors", made.length, 1);
        for (Field field : ParkingTrees.class.getDeclaredFields()) {
            boolean isNone = field.getName().equals("NONE");
            Kit.due(field + " is private", Modifier.isPrivate(field.getModifiers()) != isNone ? 1 : 0, 1);
            boolean isShared = Modifier.isStatic(field.getModifiers());
            Kit.due(field + " is final", !isShared || Modifier.isFinal(field.getModifiers()) ? 1 : 0, 1);
        }
        hiddenNames(names);
    }

    private static String parameters(Class<?>[] types) {
        StringBuilder text = new StringBuilder();
        for (Class<?> type : types) {
            text.append(text.length() == 0 ? "" : ", ").append(type);
        }
        return text.toString();
    }

    private static void hiddenNames(Set<String> names) {
        for (Method method : ParkingTrees.class.getDeclaredMethods()) {
            boolean hidden = !Modifier.isPublic(method.getModifiers());
            Kit.due(method + " has a name of its own", hidden && names.contains(method.getName()) ? 1 : 0, 0);
        }
        for (Class<?> inside : ParkingTrees.class.getDeclaredClasses()) {
            Kit.due(inside + " is static", Modifier.isStatic(inside.getModifiers()) ? 1 : 0, 1);
            for (Method method : inside.getDeclaredMethods()) {
                Kit.due(method + " has a name of its own", names.contains(method.getName()) ? 1 : 0, 0);
                Kit.due(method + " parameters", method.getParameterCount() <= 7 ? 1 : 0, 1);
            }
        }
    }

    private static void source() throws IOException {
        String text = Files.readString(SOURCE);
        String bare = text.replaceAll("(?s)/\\*.*?\\*/", "").replaceAll("//[^\n]*", "").replaceAll("\"[^\"]*\"", "\"\"");
        String[] ruledOut = {"throw", "throws", "try", "catch", "finally", "synchronized", "assert", "import",
            "package", "protected", "equals", "hashCode", "toString", "yield", "MAX_VALUE", "MIN_VALUE"};
        for (String word : ruledOut) {
            Kit.due("'" + word + "' stands there", Pattern.compile("\\b" + word + "\\b").matcher(bare).find() ? 1 : 0, 0);
        }
        for (String sign : new String[] {"->", "::", "Exact", "@"}) {
            Kit.due("'" + sign + "' stands there", bare.contains(sign) ? 1 : 0, 0);
        }
        for (int i = 0; i < text.length(); i++) {
            Kit.due("sign " + i, text.charAt(i) < 128 ? 1 : 0, 1);
        }
        // what is made is made in constructors, so no call adds to the room
        for (String line : bare.split("\n")) {
            boolean makes = line.contains("new ");
            boolean kept = line.matches("\\s+\\w+(\\[\\w+\\])? = new \\w+(\\(\\w*\\)|\\[[\\w *+]+\\]);");
            Kit.due(line, makes && !kept ? 1 : 0, 0);
        }
    }

    /** No arguments in any state may make a call throw. */
    private static void anyArguments() {
        java.util.Random random = new java.util.Random(7);
        int[] odd = {Integer.MIN_VALUE, -1000, -3, -2, -1, 9, 10, 20, 59, 60, 61, 255, 256, 1 << 30, Integer.MAX_VALUE};
        Method[] methods = ParkingTrees.class.getMethods();
        for (int round = 0; round < 400; round++) {
            ParkingTrees x = new ParkingTrees();
            for (int i = 0; i < 512; i++) {
                Method method = methods[random.nextInt(methods.length)];
                if (method.getDeclaringClass() != ParkingTrees.class) {
                    continue;
                }
                if (method.getName().equals("street") && random.nextInt(3) != 0) {
                    Kit.feed(x, street(random));
                }
                call(x, method, random, odd);
            }
        }
    }

    private static void call(ParkingTrees x, Method method, java.util.Random random, int[] odd) {
        Class<?>[] types = method.getParameterTypes();
        Object[] values = new Object[types.length];
        for (int k = 0; k < types.length; k++) {
            int value = random.nextInt(8) == 0 ? odd[random.nextInt(odd.length)] : random.nextInt(9);
            values[k] = types[k] == long.class ? (Object) (long) value : (Object) value;
        }
        try {
            Object got = method.invoke(x, values);
            Kit.due("an answer", got == null ? 0 : 1, 1);
        } catch (ReflectiveOperationException e) {
            Kit.due(method + java.util.Arrays.toString(values) + " threw " + e.getCause(), 1, 0);
        }
    }

    private static String street(java.util.Random random) {
        int places = 1 + random.nextInt(8);
        int[] wishes = new int[random.nextInt(places + 1)];
        for (int i = 0; i < wishes.length; i++) {
            wishes[i] = 1 + random.nextInt(random.nextInt(places) + 1);
        }
        StringBuilder text = new StringBuilder(Kit.text(places, random.nextInt(4), random.nextInt(11), wishes));
        for (int number = places + 1; number > 1 + random.nextInt(4); number--) {
            text.append("join ").append(number - 1).append(' ').append(number).append(';');
        }
        if (random.nextInt(6) == 0) {
            text.setCharAt(random.nextInt(text.length()), (char) random.nextInt(256));
        }
        return text.toString();
    }
}
