import java.io.IOException;
import java.lang.reflect.Method;
import java.nio.file.Files;
import java.nio.file.Path;
import java.util.Arrays;
import java.util.Comparator;
import java.util.HashSet;
import java.util.Set;
import java.util.regex.Matcher;
import java.util.regex.Pattern;

/** The document's boundary cases, a method for each promise (p1_ ..) and each term (t1_ ..). */
public final class BoundsTest {
    private static final Class<?>[] PARTS = {BoundsTape.class, BoundsRows.class, BoundsTrees.class, BoundsBlocks.class,
        BoundsAdvice.class, BoundsActs.class};
    private static final int TERMS = 13;

    public static void main(String[] args) throws IOException, ReflectiveOperationException {
        Set<String> found = new HashSet<>();
        for (Class<?> part : PARTS) {
            Method[] methods = part.getDeclaredMethods();
            Arrays.sort(methods, Comparator.comparing(Method::getName));
            for (Method method : methods) {
                if (method.getName().matches("[pt]\\d+_\\w+")) {
                    found.add(method.getName().replaceAll("_.*", ""));
                    Kit.part(method.getName());
                    method.invoke(null);
                }
            }
        }
        Kit.part("what is held");
        Matcher heads = Pattern.compile("## Promise (\\d+):").matcher(Files.readString(Path.of("../shared/DOC.md")));
        int promises = 0;
        while (heads.find()) {
            promises++;
            Kit.due("Promise " + heads.group(1), found.contains("p" + heads.group(1)) ? 1 : 0, 1);
        }
        Kit.due("promises", promises, 83);
        for (int term = 1; term <= TERMS; term++) {
            Kit.due("Term " + term, found.contains("t" + term) ? 1 : 0, 1);
        }
        Kit.finish();
    }
}
