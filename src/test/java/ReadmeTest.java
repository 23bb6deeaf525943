import java.io.IOException;
import java.lang.reflect.Method;
import java.lang.reflect.Modifier;
import java.nio.file.Files;
import java.nio.file.Paths;

/** README.md names every call with as many numbers as it takes, and its example answers what it says. */
public final class ReadmeTest {
    public static void main(String[] args) throws IOException {
        String page = Files.readString(Paths.get(args.length > 0 ? args[0] : ".", "README.md"));
        for (Method call : ExemptBeauty.class.getDeclaredMethods()) {
            if (Modifier.isPublic(call.getModifiers())) {
                Due.holds("the page names " + call.getName(), isNamed(page, call.getName(), call.getParameterCount()));
            }
        }
        Due.holds("the page says for how many calls an object is good", page.contains("512 calls"));
        Due.holds("the page says how tests are run", page.contains("`.ci/run`"));
        example();
        Due.end();
    }

    private static boolean isNamed(String page, String name, int parameters) {
        int begin = page.indexOf("| `" + name + "(");
        if (begin < 0) {
            return false;
        }
        String inside = page.substring(page.indexOf('(', begin) + 1, page.indexOf(')', begin));
        return (inside.isEmpty() ? 0 : inside.split(", ").length) == parameters;
    }

    private static void example() {
        ExemptBeauty town = new ExemptBeauty();
        int one = town.person(2, 4, 30);
        Due.is("the example's person", one, 0);
        Due.is("the example's office", Due.office(town, "like 3 t<3;taste 9"), 0);
        Due.is("the example pays", town.of(one, 4), 30);
        Due.is("the example's best hour", town.when(one, 0), 0);
    }
}
