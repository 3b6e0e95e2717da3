import java.nio.charset.StandardCharsets;
import java.util.ArrayList;
import java.util.Arrays;
import java.util.Collections;
import java.util.List;

/**
 * The document's promises, told a second time, one after another: each act with its findings in the order of its words.
 * Light is reckoned by PlainModel, texts are read by PlainText.
 */
final class PlainObject {
    private static final int[] UPPER = {-1, 0, 0, 2, 0, 1, 2};

    PlainModel m = new PlainModel();
    private PlainModel kept = null;
    private final List<Byte> tape = new ArrayList<>();
    private final int[][] rows = new int[4][];
    private final int[] bits = new int[4];
    private final int[] told = new int[7];

    /** What a call answers; true is told as 1, false as 0. */
    int answer(String name, int... a) {
        int answer = act(name, a);
        boolean tellsZ = name.equals("seed") || name.equals("count") && a[0] == 5;
        if (!tellsZ && answer < -1000000) {
            told[Check.BEYOND - answer]++;
        }
        return answer;
    }

    private int act(String name, int[] a) {
        switch (name) {
            case "sheet": case "sheetOf": case "change": case "load": case "lamp":
                return sheets(name, a);
            case "lay": case "off": case "at": case "round": case "like":
                return isStack(a[0]) ? stacks(name, a) : Check.BEYOND;
            case "through": case "seen": case "bright": case "dark": case "alike": case "sky": case "hours":
                return seen(name, a);
            case "loads": case "nearest": case "fewest": case "turnFor": case "spare":
                return wanted(name, a);
            case "look": case "clear": case "orders": case "order": case "apart":
                return orders(name, a);
            case "pairs": case "signs": case "eyes": case "years": case "drawn": case "seed":
                return signs(name, a);
            case "feed": case "wipe": case "text":
                return texts(name, a);
            case "hold": case "as":
                return spots(name, a);
            case "row": case "write": case "copy": case "from": case "judge":
                return rows(name, a);
            case "image": case "undo": case "tear": case "count": case "status":
                return images(name, a);
            default:
                throw new IllegalStateException(name);
        }
    }

    private static boolean in(int v, int low, int high) {
        return v >= low && v <= high;
    }

    private static boolean isStack(int v) {
        return in(v, 0, 3);
    }

    private static boolean isTilt(int v) {
        return in(v, 0, 11);
    }

    private static boolean isShare(int v) {
        return in(v, 0, 1000);
    }

    private boolean isSheet(int v) {
        return in(v, 0, m.sheets.size() - 1);
    }

    private int sheets(String name, int[] a) {
        int[] most = {6, 11, 1000};
        switch (name) {
            case "sheet":
                if (!in(a[0], 0, 6) || !in(a[1], 0, 11) || !in(a[2], 0, 1000)) {
                    return Check.BEYOND;
                }
                if (m.sheets.size() == 10) {
                    return Check.FULL;
                }
                m.sheets.add(a.clone());
                return m.sheets.size() - 1;
            case "sheetOf":
                return isSheet(a[0]) && in(a[1], 0, 2) ? m.sheets.get(a[0])[a[1]] : Check.BEYOND;
            case "change":
                if (!isSheet(a[0]) || !in(a[1], 0, 2) || !in(a[2], 0, most[a[1]])) {
                    return Check.BEYOND;
                }
                return swap(m.sheets.get(a[0]), a[1], a[2]);
            case "load":
                int load = m.load;
                m.load = isTilt(a[0]) ? a[0] : load;
                return isTilt(a[0]) ? load : Check.BEYOND;
            default:
                boolean fine = a[0] == 0 && isShare(a[1]) || a[0] == 1 && in(a[1], -1, 11);
                return fine ? swap(m.lamp, a[0], a[1]) : Check.BEYOND;
        }
    }

    private static int swap(int[] row, int i, int v) {
        int was = row[i];
        row[i] = v;
        return was;
    }

    private int stacks(String name, int[] a) {
        List<Integer> stack = m.stacks.get(a[0]);
        switch (name) {
            case "lay":
                if (!isSheet(a[1])) {
                    return Check.BEYOND;
                }
                if (stack.size() == 6) {
                    return Check.FULL;
                }
                stack.add(a[1]);
                return stack.size();
            case "off":
                return stack.isEmpty() ? Check.NONE : stack.remove(stack.size() - 1);
            case "at":
                if (!in(a[1], 0, 5)) {
                    return Check.BEYOND;
                }
                return a[1] < stack.size() ? stack.get(a[1]) : Check.NONE;
            case "round":
                Collections.reverse(stack);
                return stack.size();
            default:
                if (!isStack(a[1])) {
                    return Check.BEYOND;
                }
                m.stacks.set(a[0], new ArrayList<>(m.stacks.get(a[1])));
                return m.stacks.get(a[0]).size();
        }
    }

    private int seen(String name, int[] a) {
        if (name.equals("sky")) {
            return in(a[0], 0, 23) && in(a[1], 0, 1) ? PlainModel.sky(a[0])[a[1]] : Check.BEYOND;
        }
        if (!isStack(a[0])) {
            return Check.BEYOND;
        }
        int[] light = m.through(m.stacks.get(a[0]), a[1] == 1, m.lamp);
        switch (name) {
            case "through":
                return in(a[2], 0, 1) ? light[a[2]] : Check.BEYOND;
            case "seen":
                return isTilt(a[2]) ? PlainModel.seen(light, a[2]) : Check.BEYOND;
            case "bright":
                return m.bright(a[0], a[1] == 1, 1);
            case "dark":
                return m.bright(a[0], a[1] == 1, -1);
            case "alike":
                return isStack(a[1]) && isShare(a[2]) ? m.alike(a[0], a[1], a[2]) : Check.BEYOND;
            default:
                return isTilt(a[1]) && isShare(a[2]) ? m.hours(a[0], a[1], a[2]) : Check.BEYOND;
        }
    }

    private int wanted(String name, int[] a) {
        if (name.equals("turnFor")) {
            return isSheet(a[0]) && isStack(a[1]) && isTilt(a[2]) ? m.turnFor(a[0], a[1], a[2]) : Check.BEYOND;
        }
        if (!isStack(a[0]) || !isTilt(a[1])) {
            return Check.BEYOND;
        }
        if (name.equals("spare")) {
            return m.spare(a[0], a[1]);
        }
        if (!isShare(a[2])) {
            return Check.BEYOND;
        }
        return name.equals("loads") ? m.loads(a[0], a[1], a[2])
            : name.equals("nearest") ? m.nearest(a[0], a[1], a[2]) : m.fewest(a[0], a[1], a[2]);
    }

    private int orders(String name, int[] a) {
        switch (name) {
            case "look":
                if (!isTilt(a[0]) || !isShare(a[1])) {
                    return Check.BEYOND;
                }
                if (m.looks.size() == 4) {
                    return Check.FULL;
                }
                m.looks.add(a.clone());
                return m.looks.size();
            case "clear":
                int looks = m.looks.size();
                m.looks.clear();
                return looks;
            case "orders":
                return isStack(a[0]) ? m.fitting(a[0]).size() : Check.BEYOND;
            case "order":
                if (!isStack(a[0])) {
                    return Check.BEYOND;
                }
                List<List<Integer>> fitting = m.fitting(a[0]);
                if (fitting.isEmpty()) {
                    return Check.NONE;
                }
                m.stacks.set(a[0], fitting.get(0));
                return 1;
            default:
                return isStack(a[0]) ? m.apart(a[0]) : Check.BEYOND;
        }
    }

    private int signs(String name, int[] a) {
        switch (name) {
            case "pairs":
                return isTilt(a[0]) && isShare(a[1]) ? m.pairs(a[0], a[1]) : Check.BEYOND;
            case "signs":
                return isTilt(a[0]) && isShare(a[1]) ? m.signs(a[0], a[1]) : Check.BEYOND;
            case "eyes":
                return isShare(a[0]) ? m.eyes(a[0]) : Check.BEYOND;
            case "years":
                return in(a[0], 1, 100) ? years(a[0]) : Check.BEYOND;
            case "drawn":
                if (!isStack(a[0]) || !in(a[1], 1, 6)) {
                    return Check.BEYOND;
                }
                return m.sheets.isEmpty() ? Check.STATE : drawn(m.stacks.get(a[0]), a[1]);
            default:
                int z = m.z;
                m.z = a[0];
                return z;
        }
    }

    /** By long numbers, of which the lowest 32 bits are an int's. */
    private int draw() {
        long z = m.z * 1103515245L + 12345L;
        m.z = (int) z;
        return (int) ((z & 0xffffffffL) / 256);
    }

    private int years(int n) {
        int horns = 0;
        for (int[] sheet : m.sheets) {
            if (sheet[0] == 5) {
                horns++;
                sheet[2] = sheet[2] < n ? 0 : sheet[2] - n;
            }
            if (sheet[0] == 6) {
                sheet[1] = PlainModel.round(sheet[1] + draw() % 3);
            }
        }
        return horns;
    }

    private int drawn(List<Integer> stack, int n) {
        int room = 6 - stack.size();
        for (int i = 0; i < Math.min(n, room); i++) {
            stack.add(draw() % m.sheets.size());
        }
        return stack.size();
    }

    private int texts(String name, int[] a) {
        int had = tape.size();
        switch (name) {
            case "feed":
                if (!in(a[1], 1, 4)) {
                    return Check.BEYOND;
                }
                if (had + a[1] > 120) {
                    return Check.FULL;
                }
                byte[] four = {(byte) (a[0] >> 24), (byte) (a[0] >> 16), (byte) (a[0] >> 8), (byte) a[0]};
                for (int i = 4 - a[1]; i < 4; i++) {
                    tape.add(four[i]);
                }
                return tape.size();
            case "wipe":
                tape.clear();
                return had;
            default:
                byte[] bytes = new byte[had];
                for (int i = 0; i < had; i++) {
                    bytes[i] = tape.get(i);
                }
                tape.clear();
                PlainModel then = m.copy();
                int items = new PlainText(new String(bytes, StandardCharsets.ISO_8859_1), then).answer();
                m = items > 0 ? then : m;
                return items;
        }
    }

    private int spots(String name, int[] a) {
        if (!in(a[0], 0, 9)) {
            return Check.BEYOND;
        }
        if (name.equals("hold")) {
            if (a[1] != -1 && !isSheet(a[1])) {
                return Check.BEYOND;
            }
            m.spots.set(a[0], a[1]);
            return 1;
        }
        if (!in(a[1], 0, 6)) {
            return Check.BEYOND;
        }
        int sheet = m.spots.get(a[0]);
        if (sheet == -1) {
            return Check.MISSING;
        }
        int kind = m.sheets.get(sheet)[0];
        while (kind != -1 && kind != a[1]) {
            kind = UPPER[kind];
        }
        return kind == -1 ? Check.KIND : sheet;
    }

    private int rows(String name, int[] a) {
        if (!in(a[0], 0, 3) || name.equals("copy") && !in(a[2], 0, 3)) {
            return Check.BEYOND;
        }
        if (name.equals("row")) {
            return row(a[0], a[1], a[2]);
        }
        int[] row = rows[a[0]];
        if (row == null || name.equals("copy") && rows[a[2]] == null) {
            return Check.MISSING;
        }
        switch (name) {
            case "write":
                if (!in(a[1], 0, row.length - 1)) {
                    return Check.BEYOND;
                }
                int shift = 32 - bits[a[0]];
                row[a[1]] = a[2] << shift >> shift;
                return 1;
            case "copy":
                return copy(a[0], a[1], a[2], a[3], a[4]);
            case "from":
                return isStack(a[1]) ? from(row, m.stacks.get(a[1])) : Check.BEYOND;
            default:
                return isStack(a[1]) ? judge(row, m.stacks.get(a[1])) : Check.BEYOND;
        }
    }

    private int row(int s, int wanted, int n) {
        if (wanted != 0 && wanted != 8 && wanted != 16 && wanted != 32) {
            return Check.BEYOND;
        }
        if (n < 0) {
            return Check.SIZE;
        }
        if (n > 40) {
            return Check.BEYOND;
        }
        bits[s] = wanted;
        rows[s] = wanted == 0 ? null : new int[n];
        return wanted == 0 ? 0 : n;
    }

    private int copy(int s, int from, int t, int to, int n) {
        if (bits[s] != bits[t]) {
            return Check.KIND;
        }
        boolean below = from < 0 || to < 0 || n < 0;
        if (below || (long) from + n > rows[s].length || (long) to + n > rows[t].length) {
            return Check.BEYOND;
        }
        int[] were = rows[s].clone();
        for (int i = 0; i < n; i++) {
            rows[t][to + i] = were[from + i];
        }
        return n;
    }

    private int from(int[] row, List<Integer> stack) {
        int came = 0;
        while (came < row.length && isSheet(row[came]) && stack.size() < 6) {
            stack.add(row[came]);
            came++;
        }
        return came;
    }

    private int judge(int[] row, List<Integer> stack) {
        for (int i = 0; i < row.length; i++) {
            if (i == 12 || m.seenThrough(stack, i) != row[i]) {
                return 1 + i;
            }
        }
        return 0;
    }

    private int images(String name, int[] a) {
        switch (name) {
            case "image":
                kept = m.copy();
                return 1;
            case "undo":
                if (kept == null) {
                    return Check.NONE;
                }
                m = kept.copy();
                return m.sheets.size();
            case "tear":
                int torn = kept == null ? 0 : 1;
                kept = null;
                return torn;
            case "count":
                int laid = m.stacks.stream().mapToInt(List::size).sum();
                int held = (int) m.spots.stream().filter(spot -> spot >= 0).count();
                int[] counts = {m.sheets.size(), laid, m.looks.size(), m.load, tape.size(), m.z, held};
                return in(a[0], 0, 6) ? counts[a[0]] : Check.BEYOND;
            default:
                int all = Arrays.stream(told).sum();
                return a[0] == -1 ? all : in(a[0], 0, 6) ? told[a[0]] : Check.BEYOND;
        }
    }
}
