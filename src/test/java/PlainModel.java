import java.util.ArrayList;
import java.util.List;
import java.util.Set;
import java.util.TreeSet;

/**
 * The document's words on light, told a second time and with other means (lists, all rows tried anew for each
 * question), so that the random runs have something to hold the program against.
 */
final class PlainModel {
    final List<int[]> sheets = new ArrayList<>();
    final List<List<Integer>> stacks = new ArrayList<>();
    final List<int[]> looks = new ArrayList<>();
    final List<Integer> spots = new ArrayList<>();
    int load = 0;
    int[] lamp = {1000, -1};
    int z = 1;

    PlainModel() {
        for (int i = 0; i < 4; i++) {
            stacks.add(new ArrayList<>());
        }
        for (int i = 0; i < 10; i++) {
            spots.add(-1);
        }
    }

    PlainModel copy() {
        PlainModel other = new PlainModel();
        for (int[] sheet : sheets) {
            other.sheets.add(sheet.clone());
        }
        for (int i = 0; i < 4; i++) {
            other.stacks.set(i, new ArrayList<>(stacks.get(i)));
        }
        for (int[] look : looks) {
            other.looks.add(look.clone());
        }
        other.spots.clear();
        other.spots.addAll(spots);
        other.load = load;
        other.lamp = lamp.clone();
        other.z = z;
        return other;
    }

    static int round(int v) {
        return ((v % 12) + 12) % 12;
    }

    static int cos(int one, int other) {
        int rest = round(one - other);
        int d = rest < 12 - rest ? rest : 12 - rest;
        return d == 0 ? 1000 : d == 1 ? 933 : d == 2 ? 750 : d == 3 ? 500 : d == 4 ? 250 : d == 5 ? 67 : 0;
    }

    static int seen(int[] light, int tilt) {
        return light[1] == -1 ? light[0] / 2 : light[0] * cos(light[1], tilt) / 1000;
    }

    int[] comes(int sheet, boolean behind, int[] light) {
        int kind = sheets.get(sheet)[0];
        int turn = sheets.get(sheet)[1] + (kind == 6 ? load : 0);
        int pass = sheets.get(sheet)[2];
        if (behind) {
            turn = 12 - turn;
        }
        turn = round(turn);
        int[] on = light.clone();
        if (kind == 1 || kind == 5) {
            on[0] = light[1] == -1 ? light[0] / 2 : light[0] * cos(light[1], turn) / 1000;
            on[1] = turn;
        }
        if (kind == 4 || kind == 5) {
            on[0] = on[0] * pass / 1000;
        }
        if ((kind == 2 || kind == 6) && light[1] != -1) {
            on[1] = round(light[1] + turn);
        }
        if (kind == 3 && light[1] != -1) {
            on[1] = round(2 * turn - light[1]);
        }
        return on;
    }

    int[] through(List<Integer> row, boolean behind, int[] light) {
        int[] on = light;
        for (int i = 0; i < row.size(); i++) {
            on = comes(row.get(behind ? row.size() - 1 - i : i), behind, on);
        }
        return on;
    }

    int seenThrough(List<Integer> row, int tilt) {
        return seen(through(row, false, lamp), tilt);
    }

    int bright(int stack, boolean behind, int sign) {
        int best = 0;
        for (int tilt = 0; tilt < 12; tilt++) {
            int[] on = through(stacks.get(stack), behind, lamp);
            if (sign * seen(on, tilt) > sign * seen(on, best)) {
                best = tilt;
            }
        }
        return best;
    }

    int alike(int one, int other, int haze) {
        int set = 0;
        for (int tilt = 0; tilt < 12; tilt++) {
            int gap = seenThrough(stacks.get(one), tilt) - seenThrough(stacks.get(other), tilt);
            set += gap <= haze && -gap <= haze ? 1 << tilt : 0;
        }
        return set;
    }

    static int[] sky(int hour) {
        boolean day = hour >= 6 && hour <= 17;
        return new int[] {day ? 1000 : 100, day ? round(hour - 3) : -1};
    }

    int hours(int stack, int tilt, int v) {
        int set = 0;
        for (int hour = 0; hour < 24; hour++) {
            set += seen(through(stacks.get(stack), false, sky(hour)), tilt) == v ? 1 << hour : 0;
        }
        return set;
    }

    int loads(int stack, int tilt, int v) {
        int was = load;
        int set = 0;
        for (load = 0; load < 12; load++) {
            set += seenThrough(stacks.get(stack), tilt) == v ? 1 << load : 0;
        }
        load = was;
        return set;
    }

    private List<Integer> with(List<Integer> row, int... more) {
        List<Integer> all = new ArrayList<>(row);
        for (int sheet : more) {
            all.add(sheet);
        }
        return all;
    }

    int nearest(int stack, int tilt, int v) {
        int best = Check.NONE;
        int bestGap = 5000;
        for (int sheet = sheets.size() - 1; sheet >= 0; sheet--) {
            int gap = Math.abs(seenThrough(with(stacks.get(stack), sheet), tilt) - v);
            if (gap <= bestGap) {
                best = sheet;
                bestGap = gap;
            }
        }
        return best;
    }

    int fewest(int stack, int tilt, int v) {
        List<Integer> row = stacks.get(stack);
        if (row.size() > 3) {
            return Check.SIZE;
        }
        int n = sheets.size();
        int best = seenThrough(row, tilt) == v ? 0 : 9;
        for (int i = 0; i < n; i++) {
            best = seenThrough(with(row, i), tilt) == v ? Math.min(best, 1) : best;
            for (int j = 0; j < n; j++) {
                best = seenThrough(with(row, i, j), tilt) == v ? Math.min(best, 2) : best;
                for (int k = 0; k < n; k++) {
                    best = seenThrough(with(row, i, j, k), tilt) == v ? Math.min(best, 3) : best;
                }
            }
        }
        return best == 9 ? Check.NONE : best;
    }

    int turnFor(int sheet, int stack, int tilt) {
        int was = sheets.get(sheet)[1];
        int best = 11;
        int bestSeen = -1;
        for (int turn = 11; turn >= 0; turn--) {
            sheets.get(sheet)[1] = turn;
            int now = seenThrough(stacks.get(stack), tilt);
            if (now >= bestSeen) {
                best = turn;
                bestSeen = now;
            }
        }
        sheets.get(sheet)[1] = was;
        return best;
    }

    int spare(int stack, int tilt) {
        List<Integer> row = stacks.get(stack);
        int best = Check.NONE;
        int bestGap = 5000;
        for (int i = row.size() - 1; i >= 0; i--) {
            List<Integer> less = new ArrayList<>(row);
            less.remove(i);
            int gap = Math.abs(seenThrough(less, tilt) - seenThrough(row, tilt));
            if (gap <= bestGap) {
                best = i;
                bestGap = gap;
            }
        }
        return best;
    }

    /** Unlike rows of the sheets of a stack, the least first. */
    List<List<Integer>> rows(int stack) {
        Set<String> texts = new TreeSet<>();
        spell("", stacks.get(stack), texts);
        List<List<Integer>> all = new ArrayList<>();
        for (String text : texts) {
            List<Integer> row = new ArrayList<>();
            for (char digit : text.toCharArray()) {
                row.add(digit - '0');
            }
            all.add(row);
        }
        return all;
    }

    private static void spell(String begun, List<Integer> left, Set<String> texts) {
        if (left.isEmpty()) {
            texts.add(begun);
        }
        for (int i = 0; i < left.size(); i++) {
            List<Integer> less = new ArrayList<>(left);
            int sheet = less.remove(i);
            spell(begun + sheet, less, texts);
        }
    }

    List<List<Integer>> fitting(int stack) {
        List<List<Integer>> all = new ArrayList<>();
        for (List<Integer> row : rows(stack)) {
            boolean fits = true;
            for (int[] look : looks) {
                fits &= seenThrough(row, look[0]) == look[1];
            }
            if (fits) {
                all.add(row);
            }
        }
        return all;
    }

    int apart(int stack) {
        List<List<Integer>> all = rows(stack);
        int best = 0;
        int most = 0;
        for (int tilt = 0; tilt < 12; tilt++) {
            Set<Integer> views = new TreeSet<>();
            for (List<Integer> row : all) {
                views.add(seenThrough(row, tilt));
            }
            if (views.size() > most) {
                best = tilt;
                most = views.size();
            }
        }
        return best;
    }

    boolean told(int one, int other, int tilt, int haze) {
        return Math.abs(seenThrough(List.of(one), tilt) - seenThrough(List.of(other), tilt)) > haze;
    }

    int pairs(int tilt, int haze) {
        int pairs = 0;
        for (int i = 0; i < sheets.size(); i++) {
            for (int j = 0; j < i; j++) {
                pairs += told(i, j, tilt, haze) ? 1 : 0;
            }
        }
        return pairs;
    }

    int signs(int tilt, int haze) {
        int best = 0;
        for (int set = (1 << sheets.size()) - 1; set >= 0; set--) {
            boolean all = true;
            for (int i = 0; all && i < sheets.size(); i++) {
                for (int j = 0; all && j < i; j++) {
                    all = (set >> i & 1) == 0 || (set >> j & 1) == 0 || told(i, j, tilt, haze);
                }
            }
            if (all && Integer.bitCount(set) >= Integer.bitCount(best)) {
                best = set;
            }
        }
        return best;
    }

    int eyes(int haze) {
        boolean[][][] told = new boolean[10][10][12];
        for (int i = 0; i < sheets.size(); i++) {
            for (int j = 0; j < i; j++) {
                for (int tilt = 0; tilt < 12; tilt++) {
                    told[i][j][tilt] = told(i, j, tilt, haze);
                }
            }
        }
        int best = Check.NONE;
        int fewest = 99;
        for (int set = 4095; set >= 0; set--) {
            boolean all = true;
            for (int i = 0; all && i < sheets.size(); i++) {
                for (int j = 0; all && j < i; j++) {
                    boolean any = false;
                    for (int tilt = 0; tilt < 12; tilt++) {
                        any |= (set >> tilt & 1) == 1 && told[i][j][tilt];
                    }
                    all = any;
                }
            }
            if (all && Integer.bitCount(set) <= fewest) {
                best = set;
                fewest = Integer.bitCount(set);
            }
        }
        return best;
    }
}
