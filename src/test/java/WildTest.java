import java.lang.reflect.InvocationTargetException;
import java.lang.reflect.Method;
import java.lang.reflect.Modifier;
import java.util.ArrayList;
import java.util.Comparator;
import java.util.List;
import java.util.Random;

/**
 * Any call with any numbers: nothing is thrown, a finding changes nothing but status(), and status() counts it.
 * The seeds are fixed: each run is the same again.
 */
public final class WildTest {
    private static final Check c = new Check();
    private static final int[] NUMBERS = {Integer.MIN_VALUE, Integer.MIN_VALUE + 1, -1000001, -1001, -12, -2, -1, 0, 1, 2, 3,
        4, 5, 6, 7, 8, 9, 10, 11, 12, 13, 16, 23, 24, 32, 39, 40, 41, 100, 101, 120, 500, 999, 1000, 1001, 4095,
        Integer.MAX_VALUE - 1, Integer.MAX_VALUE};
    private static final List<Method> CALLS = calls();

    public static void main(String[] args) throws Exception {
        for (int seed = 1; seed <= 400; seed++) {
            Random random = new Random(seed);
            SlantSheets x = new SlantSheets();
            int wildness = 1 + random.nextInt(6);
            for (int i = 0; i < 512; i++) {
                ask(x, random, wildness, i < 40, "run " + seed + ", call " + i);
            }
        }
        c.end();
    }

    private static List<Method> calls() {
        List<Method> all = new ArrayList<>();
        for (Method method : SlantSheets.class.getDeclaredMethods()) {
            if (Modifier.isPublic(method.getModifiers())) {
                all.add(method);
            }
        }
        all.sort(Comparator.comparing(Method::getName));
        return all;
    }

    private static Method pick(Random random, boolean early) {
        if (early && random.nextBoolean()) {
            String[] names = {"sheet", "lay", "feed", "row", "hold", "image"};
            String name = names[random.nextInt(names.length)];
            return CALLS.stream().filter(method -> method.getName().equals(name)).findFirst().orElseThrow();
        }
        return CALLS.get(random.nextInt(CALLS.size()));
    }

    private static void ask(SlantSheets x, Random random, int wildness, boolean early, String place) throws Exception {
        Method method = pick(random, early);
        Object[] arguments = new Object[method.getParameterCount()];
        for (int i = 0; i < arguments.length; i++) {
            if (method.getParameterTypes()[i] == boolean.class) {
                arguments[i] = random.nextBoolean();
            } else {
                boolean wild = random.nextInt(2 + 4 * wildness) == 0;
                arguments[i] = wild ? NUMBERS[random.nextInt(NUMBERS.length)] : random.nextInt(4);
            }
        }
        boolean checked = random.nextInt(8) == 0;
        String before = checked ? dump(x) : "";
        int findings = x.status(-1);
        int answer = 0;
        try {
            answer = (Integer) method.invoke(x, arguments);
        } catch (InvocationTargetException e) {
            c.due(place + ": " + method.getName() + " threw " + e.getCause() + ": thrown", 1, 0);
        }
        boolean free = method.getName().equals("seed") || method.getName().equals("count") && (Integer) arguments[0] == 5;
        boolean finding = !free && answer < -1000000;
        c.due(place + ": " + method.getName() + ": findings", x.status(-1), findings + (finding ? 1 : 0));
        if (finding) {
            c.due(place + ": a finding that there is", answer >= Check.SIZE ? 1 : 0, 1);
            if (checked) {
                c.due(place + ": " + method.getName() + " changed nothing", dump(x).equals(before) ? 1 : 0, 1);
            }
        }
    }

    /** All that can be asked without a finding; what it changes it puts back. */
    private static String dump(SlantSheets x) {
        StringBuilder all = new StringBuilder();
        for (int what = 0; what < 7; what++) {
            all.append(x.count(what)).append(' ');
        }
        for (int sheet = 0; sheet < x.count(0); sheet++) {
            for (int what = 0; what < 3; what++) {
                all.append(x.sheetOf(sheet, what)).append(' ');
            }
        }
        for (int stack = 0; stack < 4; stack++) {
            all.append(Check.stack(x, stack)).append(' ').append(x.orders(stack)).append(' ');
        }
        int share = x.lamp(0, 0);
        x.lamp(0, share);
        int slant = x.lamp(1, -1);
        x.lamp(1, slant);
        return all.append(share).append(' ').append(slant).toString();
    }
}
