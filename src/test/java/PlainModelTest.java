import java.util.ArrayList;
import java.util.List;
import java.util.Random;

/** Promises 12 to 31 in random runs, held against the plain model. The seeds are fixed: each run is the same again. */
public final class PlainModelTest {
    private static final Check c = new Check();
    private final SlantSheets x = new SlantSheets();
    private final PlainModel m = new PlainModel();
    private final Random random;
    private final String run;

    private PlainModelTest(int seed) {
        random = new Random(seed);
        run = "run " + seed + ": ";
    }

    public static void main(String[] args) {
        for (int seed = 1; seed <= 150; seed++) {
            PlainModelTest test = new PlainModelTest(seed);
            test.fill();
            for (int i = 0; i < 5; i++) {
                test.askSeen();
                test.askWanted();
                test.askOrders();
            }
            test.askSigns();
        }
        c.end();
    }

    private int any(int end) {
        return random.nextInt(end);
    }

    private void fill() {
        int sheets = any(11);
        for (int i = 0; i < sheets; i++) {
            int pass = any(4) == 0 ? 1000 : any(11) * 100;
            int[] sheet = {any(7), any(12), pass};
            m.sheets.add(sheet);
            c.due(run + "sheet", x.sheet(sheet[0], sheet[1], sheet[2]), i);
        }
        m.load = any(12);
        x.load(m.load);
        m.lamp = new int[] {any(3) == 0 ? any(1001) : 1000, any(13) - 1};
        x.lamp(0, m.lamp[0]);
        x.lamp(1, m.lamp[1]);
        for (int stack = 0; stack < 4; stack++) {
            int height = sheets == 0 ? 0 : stack == 0 ? 6 : any(7);
            for (int i = 0; i < height; i++) {
                int sheet = any(sheets);
                m.stacks.get(stack).add(sheet);
                x.lay(stack, sheet);
            }
        }
    }

    private void askSeen() {
        int stack = any(4);
        int other = any(4);
        int tilt = any(12);
        int haze = any(2) == 0 ? any(101) : any(1001);
        boolean behind = random.nextBoolean();
        int[] light = m.through(m.stacks.get(stack), behind, m.lamp);
        c.due(run + "through share", x.through(stack, behind, 0), light[0]);
        c.due(run + "through slant", x.through(stack, behind, 1), light[1]);
        c.due(run + "seen", x.seen(stack, behind, tilt), PlainModel.seen(light, tilt));
        c.due(run + "bright", x.bright(stack, behind), m.bright(stack, behind, 1));
        c.due(run + "dark", x.dark(stack, behind), m.bright(stack, behind, -1));
        c.due(run + "alike", x.alike(stack, other, haze), m.alike(stack, other, haze));
        int v = PlainModel.seen(m.through(m.stacks.get(stack), false, new int[] {1000, any(12)}), tilt);
        c.due(run + "hours", x.hours(stack, tilt, v), m.hours(stack, tilt, v));
        c.due(run + "hours", x.hours(stack, tilt, haze), m.hours(stack, tilt, haze));
        int hour = any(24);
        c.due(run + "sky share", x.sky(hour, 0), PlainModel.sky(hour)[0]);
        c.due(run + "sky slant", x.sky(hour, 1), PlainModel.sky(hour)[1]);
    }

    /** A number that could be seen, as often as not. */
    private int wanted(int stack, int tilt) {
        if (m.sheets.isEmpty() || any(3) == 0) {
            return any(1001);
        }
        List<Integer> row = new ArrayList<>(m.stacks.get(stack));
        for (int i = any(4); i > 0; i--) {
            row.add(any(m.sheets.size()));
        }
        return m.seenThrough(row, tilt);
    }

    private void askWanted() {
        int stack = any(4);
        int tilt = any(12);
        int v = wanted(stack, tilt);
        c.due(run + "loads", x.loads(stack, tilt, v), m.loads(stack, tilt, v));
        c.due(run + "nearest", x.nearest(stack, tilt, v), m.nearest(stack, tilt, v));
        c.due(run + "fewest", x.fewest(stack, tilt, v), m.fewest(stack, tilt, v));
        c.due(run + "spare", x.spare(stack, tilt), m.spare(stack, tilt));
        if (!m.sheets.isEmpty()) {
            int sheet = m.stacks.get(stack).isEmpty() ? 0 : m.stacks.get(stack).get(0);
            c.due(run + "turnFor", x.turnFor(sheet, stack, tilt), m.turnFor(sheet, stack, tilt));
        }
    }

    private void askOrders() {
        int stack = any(4);
        int looks = any(3);
        List<List<Integer>> rows = m.rows(stack);
        List<Integer> row = rows.get(any(rows.size()));
        c.due(run + "clear", x.clear(), m.looks.size());
        m.looks.clear();
        for (int i = 0; i < looks; i++) {
            int tilt = any(12);
            int v = any(9) == 0 ? any(1001) : m.seenThrough(row, tilt);
            m.looks.add(new int[] {tilt, v});
            c.due(run + "look", x.look(tilt, v), m.looks.size());
        }
        c.due(run + "apart", x.apart(stack), m.apart(stack));
        List<List<Integer>> fitting = m.fitting(stack);
        c.due(run + "orders", x.orders(stack), fitting.size());
        c.due(run + "order", x.order(stack), fitting.isEmpty() ? Check.NONE : 1);
        if (!fitting.isEmpty()) {
            m.stacks.set(stack, new ArrayList<>(fitting.get(0)));
        }
        int[] now = m.stacks.get(stack).stream().mapToInt(Integer::intValue).toArray();
        c.due(run + "the order", Check.stack(x, stack), Check.row(now));
    }

    private void askSigns() {
        for (int i = 0; i < 4; i++) {
            int tilt = any(12);
            int haze = any(3) == 0 ? 0 : any(i < 2 ? 50 : 400);
            c.due(run + "pairs", x.pairs(tilt, haze), m.pairs(tilt, haze));
            c.due(run + "signs", x.signs(tilt, haze), m.signs(tilt, haze));
            c.due(run + "eyes", x.eyes(haze), m.eyes(haze));
        }
    }
}
