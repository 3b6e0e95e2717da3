import java.util.Arrays;

/** Light with a share and a slant, sheets that change it, and stacks of sheets. See README.md. */
public final class SlantSheets {
    private static final int BEYOND = -1000001;
    private static final int FULL = BEYOND - 1;
    private static final int KIND = BEYOND - 2;
    private static final int NONE = BEYOND - 3;
    private static final int STATE = BEYOND - 4;
    private static final int MISSING = BEYOND - 5;
    private static final int SIZE = BEYOND - 6;
    private static final int FINDINGS = 7;

    private static final int KINDS = 7;
    private static final int FILTER = 1;
    private static final int TURNER = 2;
    private static final int HALF = 3;
    private static final int SMOKE = 4;
    private static final int HORN = 5;
    private static final int STRAIN = 6;
    /** The kind that each kind stands under; -1 for the topmost. */
    private static final int[] ABOVE = {-1, 0, 0, 2, 0, 1, 2};

    private static final int MIXED = -1;
    private static final int MOST = 1000;
    private static final int TURNS = 12;
    private static final int[] COS = {1000, 933, 750, 500, 250, 67, 0};
    private static final int HOURS = 24;
    private static final int DAWN = 6;
    private static final int DUSK = 17;
    private static final int NIGHT_SHARE = 100;

    private static final int SHEETS = 10;
    private static final int PAIRS = 45;
    private static final int STACKS = 4;
    private static final int HEIGHT = 6;
    private static final int ORDERS = 720;
    private static final int LOOKS = 4;
    private static final int TAPE = 120;
    private static final int SPOTS = 10;
    private static final int ROWS = 4;
    private static final int ROW_LENGTH = 40;
    private static final int MOST_ADDED = 3;
    private static final int MOST_YEARS = 100;
    private static final int EVERY_TILT = (1 << TURNS) - 1;

    private final Scene scene = new Scene();
    private final Scene kept = new Scene();
    private boolean isKept = false;
    /** A text is tried on the draft, so that a fault in it leaves the scene as it is. */
    private final Scene draft = new Scene();
    private final Tape tape = new Tape();
    private final TextReader reader = new TextReader(tape, draft);
    private final Row[] rows = new Row[ROWS];
    private final int[] findings = new int[FINDINGS];
    private final Arrangement arrangement = new Arrangement();
    /** Rows that calls reckon in; what they hold between two calls means nothing. */
    private final int[] orderLights = new int[ORDERS];
    private final int[] marks = new int[MOST + 1];
    private final int[] soleLights = new int[SHEETS];
    private final int[] partners = new int[SHEETS];
    private final int[] tellingTilts = new int[PAIRS];

    public SlantSheets() {
        for (int s = 0; s < ROWS; s++) {
            rows[s] = new Row();
        }
    }

    // ---- sheets, stacks

    public int sheet(int kind, int turn, int pass) {
        if (!within(kind, KINDS) || !within(turn, TURNS) || !isShare(pass)) {
            return finding(BEYOND);
        }
        if (scene.sheets >= SHEETS) {
            return finding(FULL);
        }
        return scene.addSheet(kind, turn, pass);
    }

    public int sheetOf(int sheet, int what) {
        if (!isSheet(sheet) || !within(what, 3)) {
            return finding(BEYOND);
        }
        return scene.property(sheet, what);
    }

    public int change(int sheet, int what, int v) {
        if (!isSheet(sheet) || !within(what, 3) || !isProperty(what, v)) {
            return finding(BEYOND);
        }
        int was = scene.property(sheet, what);
        scene.setProperty(sheet, what, v);
        return was;
    }

    public int load(int v) {
        if (!within(v, TURNS)) {
            return finding(BEYOND);
        }
        int was = scene.load;
        scene.load = v;
        return was;
    }

    public int lamp(int what, int v) {
        if (what == 0 && isShare(v)) {
            int was = scene.lampShare;
            scene.lampShare = v;
            return was;
        }
        if (what == 1 && (v == MIXED || within(v, TURNS))) {
            int was = scene.lampSlant;
            scene.lampSlant = v;
            return was;
        }
        return finding(BEYOND);
    }

    public int lay(int stack, int sheet) {
        if (!isStack(stack) || !isSheet(sheet)) {
            return finding(BEYOND);
        }
        if (!scene.hasRoom(stack)) {
            return finding(FULL);
        }
        scene.put(stack, sheet);
        return scene.heights[stack];
    }

    public int off(int stack) {
        if (!isStack(stack)) {
            return finding(BEYOND);
        }
        if (scene.heights[stack] == 0) {
            return finding(NONE);
        }
        scene.heights[stack]--;
        return scene.stacks[stack][scene.heights[stack]];
    }

    public int at(int stack, int i) {
        if (!isStack(stack) || !within(i, HEIGHT)) {
            return finding(BEYOND);
        }
        if (i >= scene.heights[stack]) {
            return finding(NONE);
        }
        return scene.stacks[stack][i];
    }

    public int round(int stack) {
        if (!isStack(stack)) {
            return finding(BEYOND);
        }
        int[] row = scene.stacks[stack];
        int height = scene.heights[stack];
        for (int i = 0; i < height / 2; i++) {
            int low = row[i];
            row[i] = row[height - 1 - i];
            row[height - 1 - i] = low;
        }
        return height;
    }

    public int like(int stack, int other) {
        if (!isStack(stack) || !isStack(other)) {
            return finding(BEYOND);
        }
        scene.setStack(stack, scene.stacks[other], scene.heights[other]);
        return scene.heights[stack];
    }

    // ---- what is seen

    public int through(int stack, boolean behind, int what) {
        if (!isStack(stack) || !within(what, 2)) {
            return finding(BEYOND);
        }
        int light = scene.behindStack(stack, behind, scene.lampLight());
        return what == 0 ? Light.share(light) : Light.slant(light);
    }

    public int seen(int stack, boolean behind, int tilt) {
        if (!isStack(stack) || !within(tilt, TURNS)) {
            return finding(BEYOND);
        }
        return Light.seenAt(scene.behindStack(stack, behind, scene.lampLight()), tilt);
    }

    public int bright(int stack, boolean behind) {
        if (!isStack(stack)) {
            return finding(BEYOND);
        }
        int light = scene.behindStack(stack, behind, scene.lampLight());
        int best = 0;
        for (int tilt = 1; tilt < TURNS; tilt++) {
            if (Light.seenAt(light, tilt) > Light.seenAt(light, best)) {
                best = tilt;
            }
        }
        return best;
    }

    public int dark(int stack, boolean behind) {
        if (!isStack(stack)) {
            return finding(BEYOND);
        }
        int light = scene.behindStack(stack, behind, scene.lampLight());
        int best = 0;
        for (int tilt = 1; tilt < TURNS; tilt++) {
            if (Light.seenAt(light, tilt) < Light.seenAt(light, best)) {
                best = tilt;
            }
        }
        return best;
    }

    public int alike(int one, int other, int haze) {
        if (!isStack(one) || !isStack(other) || !isShare(haze)) {
            return finding(BEYOND);
        }
        return EVERY_TILT & ~tiltsApart(scene.frontLight(one), scene.frontLight(other), haze);
    }

    public int sky(int hour, int what) {
        if (!within(hour, HOURS) || !within(what, 2)) {
            return finding(BEYOND);
        }
        int light = Light.ofSky(hour);
        return what == 0 ? Light.share(light) : Light.slant(light);
    }

    public int hours(int stack, int tilt, int v) {
        if (!isStack(stack) || !within(tilt, TURNS) || !isShare(v)) {
            return finding(BEYOND);
        }
        int set = 0;
        for (int hour = 0; hour < HOURS; hour++) {
            int light = scene.behindStack(stack, false, Light.ofSky(hour));
            if (Light.seenAt(light, tilt) == v) {
                set |= 1 << hour;
            }
        }
        return set;
    }

    // ---- what is wanted

    public int loads(int stack, int tilt, int v) {
        if (!isStack(stack) || !within(tilt, TURNS) || !isShare(v)) {
            return finding(BEYOND);
        }
        int was = scene.load;
        int set = 0;
        for (int trial = 0; trial < TURNS; trial++) {
            scene.load = trial;
            if (Light.seenAt(scene.frontLight(stack), tilt) == v) {
                set |= 1 << trial;
            }
        }
        scene.load = was;
        return set;
    }

    public int nearest(int stack, int tilt, int v) {
        if (!isStack(stack) || !within(tilt, TURNS) || !isShare(v)) {
            return finding(BEYOND);
        }
        if (scene.sheets == 0) {
            return finding(NONE);
        }
        int light = scene.frontLight(stack);
        int best = 0;
        int bestGap = MOST + 1;
        for (int sheet = 0; sheet < scene.sheets; sheet++) {
            int gap = Math.abs(Light.seenAt(scene.behindSheet(sheet, false, light), tilt) - v);
            if (gap < bestGap) {
                best = sheet;
                bestGap = gap;
            }
        }
        return best;
    }

    public int fewest(int stack, int tilt, int v) {
        if (!isStack(stack) || !within(tilt, TURNS) || !isShare(v)) {
            return finding(BEYOND);
        }
        if (scene.heights[stack] > HEIGHT - MOST_ADDED) {
            return finding(SIZE);
        }
        int light = scene.frontLight(stack);
        for (int added = 0; added <= MOST_ADDED; added++) {
            if (canBring(scene, light, tilt, v, added)) {
                return added;
            }
        }
        return finding(NONE);
    }

    public int turnFor(int sheet, int stack, int tilt) {
        if (!isSheet(sheet) || !isStack(stack) || !within(tilt, TURNS)) {
            return finding(BEYOND);
        }
        int was = scene.turns[sheet];
        int best = 0;
        int bestSeen = -1;
        for (int trial = 0; trial < TURNS; trial++) {
            scene.turns[sheet] = trial;
            int view = Light.seenAt(scene.frontLight(stack), tilt);
            if (view > bestSeen) {
                best = trial;
                bestSeen = view;
            }
        }
        scene.turns[sheet] = was;
        return best;
    }

    public int spare(int stack, int tilt) {
        if (!isStack(stack) || !within(tilt, TURNS)) {
            return finding(BEYOND);
        }
        if (scene.heights[stack] == 0) {
            return finding(NONE);
        }
        int whole = Light.seenAt(scene.frontLight(stack), tilt);
        int best = 0;
        int bestGap = MOST + 1;
        for (int i = 0; i < scene.heights[stack]; i++) {
            int gap = Math.abs(Light.seenAt(scene.frontLightWithout(stack, i), tilt) - whole);
            if (gap < bestGap) {
                best = i;
                bestGap = gap;
            }
        }
        return best;
    }

    // ---- looks and orders

    public int look(int tilt, int v) {
        if (!within(tilt, TURNS) || !isShare(v)) {
            return finding(BEYOND);
        }
        if (scene.looks >= LOOKS) {
            return finding(FULL);
        }
        scene.addLook(tilt, v);
        return scene.looks;
    }

    public int clear() {
        int were = scene.looks;
        scene.looks = 0;
        return were;
    }

    public int orders(int stack) {
        if (!isStack(stack)) {
            return finding(BEYOND);
        }
        int all = reckonOrderLights(stack);
        int fitting = 0;
        for (int i = 0; i < all; i++) {
            if (scene.fitsLooks(orderLights[i])) {
                fitting++;
            }
        }
        return fitting;
    }

    public int order(int stack) {
        if (!isStack(stack)) {
            return finding(BEYOND);
        }
        arrangement.start(scene.stacks[stack], scene.heights[stack]);
        for (int i = 0; i < ORDERS; i++) {
            if (scene.fitsLooks(scene.behindRow(arrangement.row, arrangement.length))) {
                scene.setStack(stack, arrangement.row, arrangement.length);
                return 1;
            }
            if (!arrangement.advance()) {
                break;
            }
        }
        return finding(NONE);
    }

    public int apart(int stack) {
        if (!isStack(stack)) {
            return finding(BEYOND);
        }
        int all = reckonOrderLights(stack);
        Arrays.fill(marks, -1);
        int best = 0;
        int bestViews = 0;
        for (int tilt = 0; tilt < TURNS; tilt++) {
            int views = unlikeViews(all, tilt);
            if (views > bestViews) {
                best = tilt;
                bestViews = views;
            }
        }
        return best;
    }

    // ---- signs

    public int pairs(int tilt, int haze) {
        if (!within(tilt, TURNS) || !isShare(haze)) {
            return finding(BEYOND);
        }
        reckonPartners(tilt, haze);
        int pairs = 0;
        for (int sheet = 0; sheet < scene.sheets; sheet++) {
            pairs += Integer.bitCount(partners[sheet]);
        }
        return pairs / 2;
    }

    public int signs(int tilt, int haze) {
        if (!within(tilt, TURNS) || !isShare(haze)) {
            return finding(BEYOND);
        }
        reckonPartners(tilt, haze);
        int best = 0;
        for (int set = 1; set < 1 << scene.sheets; set++) {
            if (Integer.bitCount(set) > Integer.bitCount(best) && areAllPartners(set)) {
                best = set;
            }
        }
        return best;
    }

    public int eyes(int haze) {
        if (!isShare(haze)) {
            return finding(BEYOND);
        }
        int pairs = reckonTellingTilts(haze);
        int best = -1;
        for (int set = 0; set <= EVERY_TILT; set++) {
            boolean fewer = best < 0 || Integer.bitCount(set) < Integer.bitCount(best);
            if (fewer && tellsAll(set, pairs)) {
                best = set;
            }
        }
        return best < 0 ? finding(NONE) : best;
    }

    public int years(int n) {
        if (n < 1 || n > MOST_YEARS) {
            return finding(BEYOND);
        }
        int horns = 0;
        for (int sheet = 0; sheet < scene.sheets; sheet++) {
            if (scene.kinds[sheet] == HORN) {
                scene.passes[sheet] = Math.max(0, scene.passes[sheet] - n);
                horns++;
            } else if (scene.kinds[sheet] == STRAIN) {
                scene.turns[sheet] = (scene.turns[sheet] + scene.draw() % 3) % TURNS;
            }
        }
        return horns;
    }

    public int drawn(int stack, int n) {
        if (!isStack(stack) || n < 1 || n > HEIGHT) {
            return finding(BEYOND);
        }
        if (scene.sheets == 0) {
            return finding(STATE);
        }
        for (int i = 0; i < n && scene.hasRoom(stack); i++) {
            scene.put(stack, scene.draw() % scene.sheets);
        }
        return scene.heights[stack];
    }

    public int seed(int v) {
        int was = scene.z;
        scene.z = v;
        return was;
    }

    // ---- texts

    public int feed(int bytes, int n) {
        if (n < 1 || n > 4) {
            return finding(BEYOND);
        }
        if (tape.length + n > TAPE) {
            return finding(FULL);
        }
        for (int i = n - 1; i >= 0; i--) {
            tape.add((byte) (bytes >>> 8 * i));
        }
        return tape.length;
    }

    public int wipe() {
        int had = tape.length;
        tape.length = 0;
        return had;
    }

    public int text() {
        draft.become(scene);
        int items = reader.items();
        tape.length = 0;
        if (items > 0) {
            scene.become(draft);
        }
        return items;
    }

    // ---- spots, rows

    public int hold(int spot, int sheet) {
        if (!within(spot, SPOTS) || sheet != -1 && !isSheet(sheet)) {
            return finding(BEYOND);
        }
        scene.spots[spot] = sheet;
        return 1;
    }

    public int as(int spot, int kind) {
        if (!within(spot, SPOTS) || !within(kind, KINDS)) {
            return finding(BEYOND);
        }
        int sheet = scene.spots[spot];
        if (!isSheet(sheet)) {
            return finding(MISSING);
        }
        if (!isUnder(scene.kinds[sheet], kind)) {
            return finding(KIND);
        }
        return sheet;
    }

    public int row(int s, int bits, int n) {
        if (!within(s, ROWS) || bits != 0 && bits != 8 && bits != 16 && bits != 32) {
            return finding(BEYOND);
        }
        if (n < 0) {
            return finding(SIZE);
        }
        if (n > ROW_LENGTH) {
            return finding(BEYOND);
        }
        rows[s].become(bits, bits == 0 ? 0 : n);
        return rows[s].length;
    }

    public int write(int s, int i, int v) {
        if (!within(s, ROWS)) {
            return finding(BEYOND);
        }
        if (rows[s].isMissing()) {
            return finding(MISSING);
        }
        if (!within(i, rows[s].length)) {
            return finding(BEYOND);
        }
        rows[s].set(i, v);
        return 1;
    }

    public int copy(int s, int from, int t, int to, int n) {
        if (!within(s, ROWS) || !within(t, ROWS)) {
            return finding(BEYOND);
        }
        if (rows[s].isMissing() || rows[t].isMissing()) {
            return finding(MISSING);
        }
        if (rows[s].bits != rows[t].bits) {
            return finding(KIND);
        }
        if (!rows[s].hasRange(from, n) || !rows[t].hasRange(to, n)) {
            return finding(BEYOND);
        }
        System.arraycopy(rows[s].numbers, from, rows[t].numbers, to, n);
        return n;
    }

    public int from(int s, int stack) {
        if (!within(s, ROWS)) {
            return finding(BEYOND);
        }
        if (rows[s].isMissing()) {
            return finding(MISSING);
        }
        if (!isStack(stack)) {
            return finding(BEYOND);
        }
        int came = 0;
        for (int i = 0; i < rows[s].length; i++) {
            int number = rows[s].numbers[i];
            if (!isSheet(number) || !scene.hasRoom(stack)) {
                break;
            }
            scene.put(stack, number);
            came++;
        }
        return came;
    }

    public int judge(int s, int stack) {
        if (!within(s, ROWS)) {
            return finding(BEYOND);
        }
        if (rows[s].isMissing()) {
            return finding(MISSING);
        }
        if (!isStack(stack)) {
            return finding(BEYOND);
        }
        int light = scene.frontLight(stack);
        for (int i = 0; i < rows[s].length; i++) {
            if (i >= TURNS || Light.seenAt(light, i) != rows[s].numbers[i]) {
                return 1 + i;
            }
        }
        return 0;
    }

    // ---- images

    public int image() {
        kept.become(scene);
        isKept = true;
        return 1;
    }

    public int undo() {
        if (!isKept) {
            return finding(NONE);
        }
        scene.become(kept);
        return scene.sheets;
    }

    public int tear() {
        int torn = isKept ? 1 : 0;
        isKept = false;
        return torn;
    }

    public int count(int what) {
        switch (what) {
            case 0: return scene.sheets;
            case 1: return scene.sheetsInStacks();
            case 2: return scene.looks;
            case 3: return scene.load;
            case 4: return tape.length;
            case 5: return scene.z;
            case 6: return scene.spotsInUse();
            default: return finding(BEYOND);
        }
    }

    public int status(int which) {
        if (within(which, FINDINGS)) {
            return findings[which];
        }
        if (which != -1) {
            return finding(BEYOND);
        }
        int all = 0;
        for (int i = 0; i < FINDINGS; i++) {
            all += findings[i];
        }
        return all;
    }

    // ---- what the calls share

    /** Counts a finding, and gives it back as the answer. */
    private int finding(int which) {
        findings[BEYOND - which]++;
        return which;
    }

    private static boolean within(int v, int end) {
        return v >= 0 && v < end;
    }

    private static boolean isShare(int v) {
        return within(v, MOST + 1);
    }

    private boolean isSheet(int v) {
        return within(v, scene.sheets);
    }

    private static boolean isStack(int v) {
        return within(v, STACKS);
    }

    private static boolean isProperty(int what, int v) {
        if (what == 0) {
            return within(v, KINDS);
        }
        return what == 1 ? within(v, TURNS) : isShare(v);
    }

    private static boolean isUnder(int kind, int upper) {
        int k = kind;
        for (int level = 0; level < KINDS && within(k, KINDS); level++) {
            if (k == upper) {
                return true;
            }
            k = ABOVE[k];
        }
        return false;
    }

    /** Tells if just v is seen when so many more sheets (at most three) are laid in the light's way. */
    private static boolean canBring(Scene scene, int light, int tilt, int v, int added) {
        if (added <= 0) {
            return Light.seenAt(light, tilt) == v;
        }
        for (int sheet = 0; sheet < scene.sheets; sheet++) {
            if (canBring(scene, scene.behindSheet(sheet, false, light), tilt, v, added - 1)) {
                return true;
            }
        }
        return false;
    }

    /** The set of tilts at which two lights differ by more than haze. */
    private static int tiltsApart(int one, int other, int haze) {
        int set = 0;
        for (int tilt = 0; tilt < TURNS; tilt++) {
            if (Math.abs(Light.seenAt(one, tilt) - Light.seenAt(other, tilt)) > haze) {
                set |= 1 << tilt;
            }
        }
        return set;
    }

    /** Puts the light behind each order of a stack into orderLights: how many orders there are. */
    private int reckonOrderLights(int stack) {
        arrangement.start(scene.stacks[stack], scene.heights[stack]);
        int all = 0;
        for (int i = 0; i < ORDERS; i++) {
            orderLights[i] = scene.behindRow(arrangement.row, arrangement.length);
            all++;
            if (!arrangement.advance()) {
                break;
            }
        }
        return all;
    }

    /** Marks each number that is seen with the tilt, so that marks need no wiping from tilt to tilt. */
    private int unlikeViews(int all, int tilt) {
        int views = 0;
        for (int i = 0; i < all; i++) {
            int view = Light.seenAt(orderLights[i], tilt);
            if (marks[view] != tilt) {
                marks[view] = tilt;
                views++;
            }
        }
        return views;
    }

    private void reckonSoleLights() {
        int lamp = scene.lampLight();
        for (int sheet = 0; sheet < scene.sheets; sheet++) {
            soleLights[sheet] = scene.behindSheet(sheet, false, lamp);
        }
    }

    /** Puts into partners, for each sheet, the set of those that can be told from it. */
    private void reckonPartners(int tilt, int haze) {
        reckonSoleLights();
        for (int one = 0; one < scene.sheets; one++) {
            int view = Light.seenAt(soleLights[one], tilt);
            int set = 0;
            for (int other = 0; other < scene.sheets; other++) {
                if (Math.abs(view - Light.seenAt(soleLights[other], tilt)) > haze) {
                    set |= 1 << other;
                }
            }
            partners[one] = set;
        }
    }

    private boolean areAllPartners(int set) {
        for (int sheet = 0; sheet < scene.sheets; sheet++) {
            int others = set & ~(1 << sheet);
            if (others != set && (others & ~partners[sheet]) != 0) {
                return false;
            }
        }
        return true;
    }

    /** Puts into tellingTilts, for each pair of sheets, the tilts that tell them apart: how many pairs. */
    private int reckonTellingTilts(int haze) {
        reckonSoleLights();
        int pairs = 0;
        for (int one = 0; one < scene.sheets; one++) {
            for (int other = one + 1; other < scene.sheets && pairs < PAIRS; other++) {
                tellingTilts[pairs] = tiltsApart(soleLights[one], soleLights[other], haze);
                pairs++;
            }
        }
        return pairs;
    }

    private boolean tellsAll(int tilts, int pairs) {
        for (int i = 0; i < pairs; i++) {
            if ((tellingTilts[i] & tilts) == 0) {
                return false;
            }
        }
        return true;
    }

    /** Light as one int, so that passing it on makes no objects: the share, then four bits of slant + 1. */
    private static final class Light {
        static int of(int share, int slant) {
            return share << 4 | slant + 1;
        }

        static int share(int light) {
            return light >> 4;
        }

        static int slant(int light) {
            return (light & 15) - 1;
        }

        static int ofSky(int hour) {
            if (hour < DAWN || hour > DUSK) {
                return of(NIGHT_SHARE, MIXED);
            }
            return of(MOST, Math.floorMod(hour - 3, TURNS));
        }

        static int part(int share, int by) {
            return share * by / MOST;
        }

        static int cos(int slant, int other) {
            int d = slant > other ? slant - other : other - slant;
            return COS[d > TURNS / 2 ? TURNS - d : d];
        }

        static int seenAt(int light, int tilt) {
            int slant = slant(light);
            return slant == MIXED ? share(light) / 2 : part(share(light), cos(slant, tilt));
        }

        /** A filter lets through what an eye with its turn as tilt would see. */
        static int filtered(int light, int turn) {
            return of(seenAt(light, turn), turn);
        }

        static int dimmed(int light, int pass) {
            return of(part(share(light), pass), slant(light));
        }

        static int turned(int light, int turn) {
            int slant = slant(light);
            return slant == MIXED ? light : of(share(light), (slant + turn) % TURNS);
        }

        static int mirrored(int light, int turn) {
            int slant = slant(light);
            return slant == MIXED ? light : of(share(light), Math.floorMod(2 * turn - slant, TURNS));
        }
    }

    /** All that an image keeps: sheets, load, lamp, stacks, looks, draws and spots. */
    private static final class Scene {
        int sheets = 0;
        final int[] kinds = new int[SHEETS];
        final int[] turns = new int[SHEETS];
        final int[] passes = new int[SHEETS];
        int load = 0;
        int lampShare = MOST;
        int lampSlant = MIXED;
        final int[][] stacks = new int[STACKS][HEIGHT];
        final int[] heights = new int[STACKS];
        int looks = 0;
        final int[] lookTilts = new int[LOOKS];
        final int[] lookViews = new int[LOOKS];
        int z = 1;
        final int[] spots = new int[SPOTS];

        Scene() {
            Arrays.fill(spots, -1);
        }

        void become(Scene other) {
            sheets = other.sheets;
            System.arraycopy(other.kinds, 0, kinds, 0, SHEETS);
            System.arraycopy(other.turns, 0, turns, 0, SHEETS);
            System.arraycopy(other.passes, 0, passes, 0, SHEETS);
            load = other.load;
            lampShare = other.lampShare;
            lampSlant = other.lampSlant;
            for (int stack = 0; stack < STACKS; stack++) {
                setStack(stack, other.stacks[stack], other.heights[stack]);
            }
            looks = other.looks;
            System.arraycopy(other.lookTilts, 0, lookTilts, 0, LOOKS);
            System.arraycopy(other.lookViews, 0, lookViews, 0, LOOKS);
            z = other.z;
            System.arraycopy(other.spots, 0, spots, 0, SPOTS);
        }

        int addSheet(int kind, int turn, int pass) {
            kinds[sheets] = kind;
            turns[sheets] = turn;
            passes[sheets] = pass;
            sheets++;
            return sheets - 1;
        }

        int property(int sheet, int what) {
            if (what == 0) {
                return kinds[sheet];
            }
            return what == 1 ? turns[sheet] : passes[sheet];
        }

        void setProperty(int sheet, int what, int v) {
            if (what == 0) {
                kinds[sheet] = v;
            } else if (what == 1) {
                turns[sheet] = v;
            } else {
                passes[sheet] = v;
            }
        }

        boolean hasRoom(int stack) {
            return heights[stack] < HEIGHT;
        }

        void put(int stack, int sheet) {
            stacks[stack][heights[stack]] = sheet;
            heights[stack]++;
        }

        void setStack(int stack, int[] row, int height) {
            System.arraycopy(row, 0, stacks[stack], 0, height);
            heights[stack] = height;
        }

        int sheetsInStacks() {
            int all = 0;
            for (int stack = 0; stack < STACKS; stack++) {
                all += heights[stack];
            }
            return all;
        }

        int spotsInUse() {
            int used = 0;
            for (int spot = 0; spot < SPOTS; spot++) {
                if (spots[spot] >= 0) {
                    used++;
                }
            }
            return used;
        }

        void addLook(int tilt, int view) {
            lookTilts[looks] = tilt;
            lookViews[looks] = view;
            looks++;
        }

        boolean fitsLooks(int light) {
            for (int i = 0; i < looks; i++) {
                if (Light.seenAt(light, lookTilts[i]) != lookViews[i]) {
                    return false;
                }
            }
            return true;
        }

        int draw() {
            z = z * 1103515245 + 12345;
            return z >>> 8;
        }

        int lampLight() {
            return Light.of(lampShare, lampSlant);
        }

        int behindSheet(int sheet, boolean behind, int light) {
            int turn = turns[sheet];
            if (kinds[sheet] == STRAIN) {
                turn = (turn + load) % TURNS;
            }
            if (behind) {
                turn = (TURNS - turn) % TURNS;
            }
            switch (kinds[sheet]) {
                case FILTER: return Light.filtered(light, turn);
                case HORN: return Light.dimmed(Light.filtered(light, turn), passes[sheet]);
                case TURNER: return Light.turned(light, turn);
                case STRAIN: return Light.turned(light, turn);
                case HALF: return Light.mirrored(light, turn);
                case SMOKE: return Light.dimmed(light, passes[sheet]);
                default: return light;
            }
        }

        int behindStack(int stack, boolean behind, int light) {
            int height = heights[stack];
            int on = light;
            for (int i = 0; i < height; i++) {
                on = behindSheet(stacks[stack][behind ? height - 1 - i : i], behind, on);
            }
            return on;
        }

        /** The lamp's light behind a stack, from the front. */
        int frontLight(int stack) {
            return behindStack(stack, false, lampLight());
        }

        int frontLightWithout(int stack, int place) {
            int on = lampLight();
            for (int i = 0; i < heights[stack]; i++) {
                if (i != place) {
                    on = behindSheet(stacks[stack][i], false, on);
                }
            }
            return on;
        }

        /** The lamp's light behind sheets in a row that is no stack, from the front. */
        int behindRow(int[] row, int length) {
            int on = lampLight();
            for (int i = 0; i < length; i++) {
                on = behindSheet(row[i], false, on);
            }
            return on;
        }
    }

    /** The orders of a stack one by one, each unlike row once, the least first. */
    private static final class Arrangement {
        final int[] row = new int[HEIGHT];
        int length = 0;

        void start(int[] stack, int height) {
            length = height;
            for (int i = 0; i < height; i++) {
                int place = i;
                for (; place > 0 && row[place - 1] > stack[i]; place--) {
                    row[place] = row[place - 1];
                }
                row[place] = stack[i];
            }
        }

        /** Goes to the next greater order, and tells if there is one. */
        boolean advance() {
            int rise = length - 2;
            while (rise >= 0 && row[rise] >= row[rise + 1]) {
                rise--;
            }
            if (rise < 0) {
                return false;
            }
            int greater = length - 1;
            while (greater > rise && row[greater] <= row[rise]) {
                greater--;
            }
            swap(rise, greater);
            for (int low = rise + 1, high = length - 1; low < high; low++, high--) {
                swap(low, high);
            }
            return true;
        }

        private void swap(int i, int j) {
            int was = row[i];
            row[i] = row[j];
            row[j] = was;
        }
    }

    /** A row of numbers of some bits; missing while it has none. */
    private static final class Row {
        int bits = 0;
        int length = 0;
        final int[] numbers = new int[ROW_LENGTH];

        boolean isMissing() {
            return bits == 0;
        }

        void become(int newBits, int newLength) {
            bits = newBits;
            length = newLength;
            Arrays.fill(numbers, 0);
        }

        void set(int i, int v) {
            if (bits == 8) {
                numbers[i] = (byte) v;
            } else if (bits == 16) {
                numbers[i] = (short) v;
            } else {
                numbers[i] = v;
            }
        }

        /** Takes length from the end, as start + n could wrap round. */
        boolean hasRange(int start, int n) {
            return start >= 0 && n >= 0 && n <= length && start <= length - n;
        }
    }

    private static final class Tape {
        final byte[] bytes = new byte[TAPE];
        int length = 0;

        void add(byte b) {
            bytes[length] = b;
            length++;
        }
    }

    /**
     * Reads the tape as a text, and does what it tells to a scene as it goes.
     * Where reading fails, the token at hand is the one that can't stand there.
     */
    private static final class TextReader {
        static final int END = 0;
        static final int WORD = 1;
        static final int NUMBER = 2;
        static final int SIGN = 3;
        static final int OTHER = 4;

        final Tape tape;
        final Scene scene;
        final int[] numbers = new int[HEIGHT];
        int type = END;
        int start = 0;
        int end = 0;

        TextReader(Tape tape, Scene scene) {
            this.tape = tape;
            this.scene = scene;
        }

        /** How many items the text has, or -1 less the fault. */
        int items() {
            end = 0;
            next();
            for (int items = 1; items <= TAPE; items++) {
                if (!item()) {
                    break;
                }
                if (type == END) {
                    return items;
                }
                if (type != SIGN) {
                    break;
                }
                next();
            }
            return -1 - start;
        }

        private boolean item() {
            if (takeWord("stack")) {
                return stackItem();
            }
            if (takeWord("lamp")) {
                return lampItem();
            }
            if (takeWord("load")) {
                return loadItem();
            }
            return sheetItem();
        }

        private boolean sheetItem() {
            int kind = kindAtHand();
            if (kind < 0 || scene.sheets >= SHEETS) {
                return false;
            }
            next();
            int turn = takeWord("turn") ? takeNumber(TURNS - 1) : 0;
            if (turn < 0) {
                return false;
            }
            int pass = takeWord("pass") ? takeNumber(MOST) : MOST;
            if (pass < 0) {
                return false;
            }
            scene.addSheet(kind, turn, pass);
            return true;
        }

        private boolean stackItem() {
            int stack = takeNumber(STACKS - 1);
            if (stack < 0) {
                return false;
            }
            int height = 0;
            for (int i = 0; i < HEIGHT && (i == 0 || type == NUMBER); i++) {
                int sheet = takeNumber(scene.sheets - 1);
                if (sheet < 0) {
                    return false;
                }
                numbers[i] = sheet;
                height++;
            }
            scene.setStack(stack, numbers, height);
            return true;
        }

        private boolean lampItem() {
            int share = takeNumber(MOST);
            if (share < 0) {
                return false;
            }
            int slant = MIXED;
            if (!takeWord("mixed")) {
                slant = takeWord("slant") ? takeNumber(TURNS - 1) : -1;
                if (slant < 0) {
                    return false;
                }
            }
            scene.lampShare = share;
            scene.lampSlant = slant;
            return true;
        }

        private boolean loadItem() {
            int load = takeNumber(TURNS - 1);
            if (load < 0) {
                return false;
            }
            scene.load = load;
            return true;
        }

        private int kindAtHand() {
            for (int kind = 0; kind < KINDS; kind++) {
                if (isWord(wordOf(kind))) {
                    return kind;
                }
            }
            return -1;
        }

        private static String wordOf(int kind) {
            switch (kind) {
                case FILTER: return "filter";
                case TURNER: return "turner";
                case HALF: return "half";
                case SMOKE: return "smoke";
                case HORN: return "horn";
                case STRAIN: return "strain";
                default: return "sheet";
            }
        }

        private boolean isWord(String word) {
            if (type != WORD || end - start != word.length()) {
                return false;
            }
            for (int i = 0; i < word.length(); i++) {
                if (tape.bytes[start + i] != word.charAt(i)) {
                    return false;
                }
            }
            return true;
        }

        /** Goes on behind the token at hand if it is this word, and tells so. */
        private boolean takeWord(String word) {
            if (!isWord(word)) {
                return false;
            }
            next();
            return true;
        }

        /** The number at hand, going on behind it; -1, going nowhere, if there is none from 0 to most. */
        private int takeNumber(int most) {
            int number = type == NUMBER ? numberAtHand() : -1;
            if (number < 0 || number > most) {
                return -1;
            }
            next();
            return number;
        }

        /** Numbers above 10000 are cut to it, as they can't stand anywhere either. */
        private int numberAtHand() {
            int number = 0;
            for (int i = start; i < end; i++) {
                number = Math.min(10000, number * 10 + tape.bytes[i] - '0');
            }
            return number;
        }

        private void next() {
            start = end;
            while (start < tape.length && tape.bytes[start] == ' ') {
                start++;
            }
            end = start;
            type = END;
            if (start < tape.length) {
                type = typeOf(tape.bytes[start]);
                end++;
            }
            while (end < tape.length && (type == WORD || type == NUMBER) && typeOf(tape.bytes[end]) == type) {
                end++;
            }
        }

        /** The type of the token that a byte begins; words and numbers go on with bytes of their own type. */
        private static int typeOf(byte b) {
            if (b >= 'a' && b <= 'z') {
                return WORD;
            }
            if (b >= '0' && b <= '9') {
                return NUMBER;
            }
            return b == ';' ? SIGN : OTHER;
        }
    }
}
