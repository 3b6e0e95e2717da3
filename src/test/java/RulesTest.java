import java.io.IOException;
import java.lang.reflect.Constructor;
import java.lang.reflect.Field;
import java.lang.reflect.Method;
import java.lang.reflect.Modifier;
import java.nio.file.Files;
import java.nio.file.Path;
import java.util.Set;
import java.util.TreeSet;

/** The document's face, and those rules of LANGUAGE.md that a look at the class and its source can hold. */
public final class RulesTest {
    private static final Check c = new Check();
    private static final String[] FACE = {"sheet 3", "sheetOf 2", "change 3", "load 1", "lamp 2", "lay 2", "off 1", "at 2",
        "round 1", "like 2", "through 3", "seen 3", "bright 2", "dark 2", "alike 3", "sky 2", "hours 3", "loads 3",
        "nearest 3", "fewest 3", "turnFor 3", "spare 2", "look 2", "clear 0", "orders 1", "order 1", "apart 1", "pairs 2",
        "signs 2", "eyes 1", "years 1", "drawn 2", "seed 1", "feed 2", "wipe 0", "text 0", "hold 2", "as 2", "row 3",
        "write 3", "copy 5", "from 2", "judge 2", "image 0", "undo 0", "tear 0", "count 1", "status 1"};

    public static void main(String[] args) throws IOException {
        face();
        classesInside();
        source();
        c.end();
    }

    private static void face() {
        Set<String> open = new TreeSet<>();
        for (Method method : SlantSheets.class.getDeclaredMethods()) {
            if (!Modifier.isPrivate(method.getModifiers())) {
                open.add(method.getName() + " " + method.getParameterCount());
                c.due(method.getName() + " answers an int", method.getReturnType() == int.class ? 1 : 0, 1);
                c.due(method.getName() + " is public, no more", method.getModifiers(), Modifier.PUBLIC);
            }
        }
        c.due("the face " + open, open.equals(new TreeSet<>(Set.of(FACE))) ? 1 : 0, 1);
        for (Field field : SlantSheets.class.getDeclaredFields()) {
            c.due(field.getName() + " is private", Modifier.isPrivate(field.getModifiers()) ? 1 : 0, 1);
        }
        Constructor<?>[] constructors = SlantSheets.class.getDeclaredConstructors();
        c.due("constructors", constructors.length, 1);
        c.due("its parameters", constructors[0].getParameterCount(), 0);
        c.due("the class", SlantSheets.class.getModifiers(), Modifier.PUBLIC | Modifier.FINAL);
    }

    private static void classesInside() {
        Set<String> names = new TreeSet<>();
        for (String call : FACE) {
            names.add(call.substring(0, call.indexOf(' ')));
        }
        Class<?>[] inside = SlantSheets.class.getDeclaredClasses();
        c.due("some twelve classes", inside.length <= 11 ? 1 : 0, 1);
        fieldsAndParameters(SlantSheets.class);
        for (Class<?> one : inside) {
            c.due(one.getName() + " is static", Modifier.isStatic(one.getModifiers()) ? 1 : 0, 1);
            fieldsAndParameters(one);
            for (Method method : one.getDeclaredMethods()) {
                c.due(method.getName() + " is a public name", names.contains(method.getName()) ? 1 : 0, 0);
            }
        }
        for (Method method : SlantSheets.class.getDeclaredMethods()) {
            boolean twice = Modifier.isPrivate(method.getModifiers()) && names.contains(method.getName());
            c.due(method.getName() + " is a public name too", twice ? 1 : 0, 0);
        }
    }

    private static void fieldsAndParameters(Class<?> one) {
        int fields = 0;
        for (Field field : one.getDeclaredFields()) {
            boolean isStatic = Modifier.isStatic(field.getModifiers());
            fields += isStatic ? 0 : 1;
            c.due(field.getName() + ": a static field is final", isStatic && !Modifier.isFinal(field.getModifiers()) ? 1 : 0, 0);
        }
        c.due(one.getName() + " has some twenty fields", fields <= 20 ? 1 : 0, 1);
        for (Method method : one.getDeclaredMethods()) {
            c.due(method.getName() + " takes at most seven", method.getParameterCount() <= 7 ? 1 : 0, 1);
        }
    }

    private static void source() throws IOException {
        String source = Files.readString(Path.of("src/main/java/SlantSheets.java"));
        String code = source.replaceAll("(?s)/\\*.*?\\*/", " ").replaceAll("//[^\n]*", " ").replaceAll("\"[^\"\n]*\"", "\"\"");
        String[] words = {"throw", "throws", "try", "catch", "finally", "synchronized", "assert", "package", "var", "volatile",
            "transient", "native", "strictfp", "System.out", "System.err", "equals", "hashCode", "toString", "Exception",
            "Object", "Thread", "Random", "double", "float", "instanceof"};
        for (String word : words) {
            String bounded = "(?s).*(^|[^A-Za-z0-9_])" + word.replace(".", "\\.") + "([^A-Za-z0-9_]|$).*";
            c.due("the word " + word, code.matches(bounded) ? 1 : 0, 0);
        }
        for (String sign : new String[] {"->", "::", "@"}) {
            c.due("the sign " + sign, code.contains(sign) ? 1 : 0, 0);
        }
        String rest = code.replace("import java.util.Arrays;", "");
        c.due("imports", rest.contains("import ") ? 1 : 0, 0);
        for (int i = 0; i < source.length(); i++) {
            if (source.charAt(i) > 127) {
                c.due("the sign at " + i, source.charAt(i), 0);
            }
        }
    }
}
