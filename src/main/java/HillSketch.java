import java.util.Arrays;

/** Lands of heights and sketches of their skylines: where a sketch can have been drawn, and which hill is which. */
public final class HillSketch {
    /** There is none. */
    public static final int NONE = -1;

    private static final int NO_SUCH = -2;
    private static final int NO_RISE = -10000;
    private static final int TAPE_BYTES = 700;
    private static final int FED_BYTES = 20;
    private static final int LEAST_SIDE = 2;
    private static final int MOST_SIDE = 12;
    private static final int FIRST_SIDE = 4;
    private static final int MOST_PLACES = 144;
    private static final int MOST_HEIGHT = 999;
    private static final int MOST_EYE = 9;
    private static final int MOST_HAZE = 999;
    private static final int HUNDRED = 100;
    private static final int LAST = 99;
    private static final int MOST_THINGS = 12;
    private static final int MOST_HUMPS = 12;
    private static final int MOST_LANDS = 2;
    private static final int MOST_SKETCHES = 4;
    private static final int IMAGES = 3;
    private static final int SIDES = 4;

    /** No place, of the largest land either, has places in more directions. */
    private static final int MOST_RAYS = 90;
    /** Two neighbours are never both humps. */
    private static final int MOST_SEEN_HUMPS = MOST_RAYS / 2;
    private static final int MASK_WORDS = 3;
    private static final int MOST_DIVISIONS = 64;

    private static final int LAND = 0;
    private static final int SKETCH = 1;
    private static final int HAS_LAKE = 1;
    private static final int HAS_TOWER = 2;
    private static final int IS_BARE = 4;

    private static final int MOST_DOUBTED = 8;
    private static final int MOST_GUARDS = 3;
    private static final int MOST_SCRAWLED = 9;
    private static final int MOST_WORLDS = 8;
    private static final int MOST_ERROR = 20;

    /** More than all couples of a sketch's humps. */
    private static final int NO_LIMIT = 1000;

    private final State now;
    private final State[] images;
    private final Reader reader;
    private final Sight sight;
    private final Scene[] scenes;
    private final Skyline trial;
    private final Fitter fitter;
    private final Sketch draft;
    private final Walker walker;
    private final boolean[] here;
    private final boolean[] there;

    public HillSketch() {
        now = new State();
        images = new State[IMAGES];
        reader = new Reader();
        sight = new Sight();
        scenes = new Scene[MOST_LANDS];
        trial = new Skyline();
        fitter = new Fitter();
        draft = new Sketch();
        walker = new Walker();
        here = new boolean[MOST_PLACES];
        there = new boolean[MOST_PLACES];
    }

    // The tape and the texts

    public int feed(int a, int b, int c, int d, int e) {
        if (now.length + FED_BYTES > TAPE_BYTES) {
            return NONE;
        }
        now.append(a);
        now.append(b);
        now.append(c);
        now.append(d);
        now.append(e);
        return now.length;
    }

    public int end(int n) {
        if (n < 0 || n > now.length) {
            return NONE;
        }
        now.length = n;
        return n;
    }

    public int text(int sort, int at) {
        // The tape is taken by every call, even by one that reads nothing of it.
        int taken = now.length;
        now.length = 0;
        now.fault = 0;
        now.faultAt = NONE;
        int number = slotFor(sort, at);
        if (number == NO_SUCH) {
            return NO_SUCH;
        }
        if (sort == LAND) {
            reader.readLand(now.tape, taken);
        } else {
            reader.readSketch(now.tape, taken);
        }
        if (reader.fault != 0) {
            now.fault = reader.fault;
            now.faultAt = reader.faultAt;
            return NONE;
        }
        if (sort == LAND) {
            keepLand(number);
        } else {
            keepSketch(number, reader.sketch);
        }
        return number;
    }

    public int fault(int what) {
        if (what == 0) {
            return now.fault;
        }
        return what == 1 ? now.faultAt : NONE;
    }

    /** The number under which the next one is kept, or NO_SUCH. */
    private int slotFor(int sort, int at) {
        if (sort != LAND && sort != SKETCH) {
            return NO_SUCH;
        }
        int count = sort == LAND ? now.lands : now.sketches;
        int most = sort == LAND ? MOST_LANDS : MOST_SKETCHES;
        if (at == NONE) {
            return count < most ? count : NO_SUCH;
        }
        return at >= 0 && at < count ? at : NO_SUCH;
    }

    private void keepLand(int number) {
        if (number < 0 || number >= MOST_LANDS) {
            return;
        }
        now.land[number].take(reader.land);
        now.lands = Math.max(now.lands, number + 1);
        forget(number);
    }

    private void keepSketch(int number, Sketch from) {
        if (number < 0 || number >= MOST_SKETCHES) {
            return;
        }
        now.sketch[number].take(from);
        now.sketches = Math.max(now.sketches, number + 1);
    }

    // What has been told

    public int land(int land, int what) {
        Land it = landAt(land);
        if (it == null) {
            return NONE;
        }
        switch (what) {
            case 0:
                return it.width;
            case 1:
                return it.depth;
            case 2:
                return it.eye;
            case 3:
                return it.bend;
            case 4:
                return it.haze;
            case 5:
                return it.things;
            default:
                return it.tellThing(what);
        }
    }

    public int height(int land, int place) {
        Land it = landAt(land);
        return it != null && it.has(place) ? it.heights[place] : NONE;
    }

    public boolean mend(int land, int place, int height) {
        Land it = landAt(land);
        if (it == null || !it.has(place) || height < 0 || height > MOST_HEIGHT) {
            return false;
        }
        it.heights[place] = height;
        forget(land);
        return true;
    }

    public int sketch(int sketch, int what) {
        Sketch it = sketchAt(sketch);
        if (it == null) {
            return NONE;
        }
        switch (what) {
            case 0:
                return it.humps;
            case 1:
                return it.give;
            case 2:
                return it.real ? 1 : 0;
            case 3:
                return it.half ? 1 : 0;
            case 4:
                return it.turned ? 1 : 0;
            case 5:
                return it.from;
            case 6:
                return it.to;
            default:
                return it.tellHump(what);
        }
    }

    public int count(int what) {
        if (what == LAND) {
            return now.lands;
        }
        return what == SKETCH ? now.sketches : NO_SUCH;
    }

    public boolean image(int k) {
        if (k < 0 || k >= IMAGES) {
            return false;
        }
        if (images[k] == null) {
            images[k] = new State();
        }
        images[k].take(now);
        return true;
    }

    public boolean again(int k) {
        if (k < 0 || k >= IMAGES || images[k] == null) {
            return false;
        }
        now.take(images[k]);
        for (int i = 0; i < MOST_LANDS; i++) {
            forget(i);
        }
        return true;
    }

    private Land landAt(int number) {
        return number >= 0 && number < now.lands && number < MOST_LANDS ? now.land[number] : null;
    }

    private Sketch sketchAt(int number) {
        return number >= 0 && number < now.sketches && number < MOST_SKETCHES ? now.sketch[number] : null;
    }

    /** A scene is made when its land is first asked about, so that an object without lands stays small. */
    private Scene sceneAt(int number) {
        Land it = landAt(number);
        if (it == null || number < 0 || number >= MOST_LANDS) {
            return null;
        }
        if (scenes[number] == null) {
            scenes[number] = new Scene(it, sight);
        }
        return scenes[number];
    }

    /** What was looked at is old, as heights are others now. */
    private void forget(int number) {
        if (number >= 0 && number < MOST_LANDS && scenes[number] != null) {
            scenes[number].version++;
        }
    }

    private Skyline lineAt(int land, int p) {
        Scene scene = sceneAt(land);
        return scene != null && scene.land.has(p) ? scene.lineOf(p) : null;
    }

    // What is seen from a place

    public int rise(int land, int p, int q) {
        Land it = landAt(land);
        if (it == null || !it.has(p) || !it.has(q) || p == q) {
            return NO_RISE;
        }
        return it.lift(p, q, it.apart(p, q));
    }

    public int seen(int land, int p, int q) {
        Land it = landAt(land);
        Skyline line = lineAt(land, p);
        if (it == null || line == null || p == q || !it.has(q)) {
            return NONE;
        }
        return line.shows(q) ? 1 : 0;
    }

    public int ray(int land, int p, int k) {
        Skyline line = lineAt(land, p);
        if (line == null) {
            return NONE;
        }
        return k == NONE ? line.rays : line.topOfRay(k);
    }

    public int hump(int land, int p, int k) {
        Skyline line = lineAt(land, p);
        if (line == null) {
            return NONE;
        }
        return k == NONE ? line.humps : line.topOfHump(k);
    }

    public int steeper(int land, int p, int i, int k) {
        Skyline line = lineAt(land, p);
        if (line == null || !line.hasHump(i) || !line.hasHump(k)) {
            return NO_SUCH;
        }
        return line.weigh(line.hump[i], line.hump[k]);
    }

    public int sees(int land, int p) {
        Skyline line = lineAt(land, p);
        return line == null ? NONE : line.countShown();
    }

    public int most(int land) {
        Scene scene = sceneAt(land);
        if (scene == null) {
            return NONE;
        }
        int best = 0;
        for (int p = 1; p < scene.land.places(); p++) {
            if (scene.lineOf(p).countShown() > scene.lineOf(best).countShown()) {
                best = p;
            }
        }
        return best;
    }

    public int hidden(int land) {
        Scene scene = sceneAt(land);
        if (scene == null) {
            return NONE;
        }
        int hidden = 0;
        for (int q = 0; q < scene.land.places(); q++) {
            if (!isShown(scene, q)) {
                hidden++;
            }
        }
        return hidden;
    }

    private static boolean isShown(Scene scene, int q) {
        for (int p = 0; p < scene.land.places(); p++) {
            if (scene.lineOf(p).shows(q)) {
                return true;
            }
        }
        return false;
    }

    public int guards(int land, int k) {
        Scene scene = sceneAt(land);
        if (scene == null) {
            return NONE;
        }
        int count = scene.guardCount();
        if (k == NONE) {
            return count;
        }
        return k >= 0 && k < count && k < MOST_GUARDS ? scene.guard[k] : NONE;
    }

    public int differs(int land, int other, int p) {
        Skyline one = lineAt(land, p);
        Skyline two = lineAt(other, p);
        if (one == null || two == null) {
            return NONE;
        }
        int differing = 0;
        for (int k = 0; k < one.humps; k++) {
            if (!two.hasTop(one.topOfHump(k))) {
                differing++;
            }
        }
        return differing;
    }

    public int shift(int land, int c, int h) {
        Scene scene = sceneAt(land);
        if (scene == null || !scene.land.has(c) || h < 0 || h > MOST_HEIGHT) {
            return NONE;
        }
        int others = 0;
        for (int p = 0; p < scene.land.places(); p++) {
            int humps = scene.lineOf(p).humps;
            lookWith(scene.land, p, c, h);
            if (trial.humps != humps) {
                others++;
            }
        }
        return others;
    }

    /** Looks from p as if the height of c was h; the land is as it was afterwards. */
    private void lookWith(Land land, int p, int c, int h) {
        if (!land.has(c)) {
            return;
        }
        int kept = land.heights[c];
        land.heights[c] = h;
        sight.aim(land, p);
        sight.look(land, trial);
        land.heights[c] = kept;
    }

    // Where a sketch fits

    /** Readies the fitter with a sketch for a land; false if there is none such. */
    private boolean takesUp(int land, int sketch, int year) {
        Land it = landAt(land);
        Sketch drawn = sketchAt(sketch);
        if (it == null || drawn == null || year < NONE || year > LAST) {
            return false;
        }
        fitter.hold(it, drawn, year);
        return true;
    }

    /** Readies the fitter with a sketch at a place; false if there is none such. */
    private boolean facesPlace(int land, int sketch, int p, int year) {
        Skyline line = lineAt(land, p);
        if (line == null || !takesUp(land, sketch, year)) {
            return false;
        }
        fitter.line = line;
        return true;
    }

    public int first(int land, int sketch, int p, int start, int year) {
        if (!facesPlace(land, sketch, p, year) || !fitter.line.hasHump(start)) {
            return NONE;
        }
        return fitter.reach(start);
    }

    public int fits(int land, int sketch, int p, int year) {
        return facesPlace(land, sketch, p, year) ? fitter.leastStart() : NONE;
    }

    public int where(int land, int sketch, int year, int k) {
        return marksFitting(land, sketch, year, here) ? tellMarked(here, k) : NONE;
    }

    /** Marks the places that a sketch fits; false if there is none such. */
    private boolean marksFitting(int land, int sketch, int year, boolean[] marks) {
        Scene scene = sceneAt(land);
        if (scene == null || !takesUp(land, sketch, year)) {
            return false;
        }
        wipe(marks);
        for (int p = 0; p < scene.land.places() && p < marks.length; p++) {
            fitter.line = scene.lineOf(p);
            marks[p] = fitter.leastStart() != NONE;
        }
        return true;
    }

    private static void wipe(boolean[] marks) {
        for (int p = 0; p < marks.length; p++) {
            marks[p] = false;
        }
    }

    /** How many are marked (k NONE), or the k-th of them. */
    private static int tellMarked(boolean[] marks, int k) {
        int count = 0;
        for (int p = 0; p < marks.length; p++) {
            if (marks[p]) {
                if (count == k) {
                    return p;
                }
                count++;
            }
        }
        return k == NONE ? count : NONE;
    }

    public int hills(int land, int sketch, int i, int k) {
        return marksHills(land, sketch, i) ? tellMarked(here, k) : NONE;
    }

    public boolean sure(int land, int sketch, int i) {
        return marksHills(land, sketch, i) && tellMarked(here, NONE) == 1;
    }

    /** Marks the hills that hump i can be; false if there is none such. */
    private boolean marksHills(int land, int sketch, int i) {
        Scene scene = sceneAt(land);
        if (scene == null || !takesUp(land, sketch, NONE) || i < 0 || i >= fitter.sketch.humps) {
            return false;
        }
        wipe(here);
        for (int p = 0; p < scene.land.places(); p++) {
            fitter.line = scene.lineOf(p);
            fitter.markTops(i, here);
        }
        return true;
    }

    public int bars(int land, int sketch, int i) {
        Scene scene = sceneAt(land);
        if (scene == null || !takesUp(land, sketch, NONE) || i < 0 || i >= fitter.sketch.humps) {
            return NONE;
        }
        int barred = 0;
        for (int p = 0; p < scene.land.places(); p++) {
            fitter.line = scene.lineOf(p);
            if (fitter.greatestReach() == i) {
                barred++;
            }
        }
        return barred;
    }

    public int doubt(int land, int sketch) {
        Scene scene = sceneAt(land);
        if (scene == null || !takesUp(land, sketch, NONE) || fitter.sketch.humps > MOST_DOUBTED) {
            return NONE;
        }
        int best = NONE;
        for (int p = 0; p < scene.land.places() && best != 0; p++) {
            fitter.line = scene.lineOf(p);
            best = fitter.doubted(best);
        }
        return best;
    }

    public int since(int land, int sketch, boolean until) {
        Scene scene = sceneAt(land);
        if (scene == null || !takesUp(land, sketch, NONE)) {
            return NONE;
        }
        int spans = fitter.spans;
        for (int turn = 0; turn < spans; turn++) {
            int span = until ? spans - 1 - turn : turn;
            fitter.narrow(span);
            if (countFitting(scene, NONE, 1) > 0) {
                return until ? fitter.yearTo(span) : fitter.yearFrom(span);
            }
        }
        return NONE;
    }

    /** How many places but one the sketch in the fitter fits; it stops counting at most. */
    private int countFitting(Scene scene, int but, int most) {
        int count = 0;
        for (int p = 0; p < scene.land.places() && count < most; p++) {
            fitter.line = scene.lineOf(p);
            if (p != but && fitter.leastStart() != NONE) {
                count++;
            }
        }
        return count;
    }

    public int lacks(int land, int sketch, int p, int c) {
        Land it = landAt(land);
        if (it == null || !it.has(p) || !it.has(c) || p == c || !takesUp(land, sketch, NONE)) {
            return NONE;
        }
        int kept = it.heights[c];
        int least = leastFitting(it, p, c);
        it.heights[c] = kept;
        return least;
    }

    /** The least height of c with which the sketch in the fitter fits p; only the ray of c can change with it. */
    private int leastFitting(Land land, int p, int c) {
        if (!land.has(c)) {
            return NONE;
        }
        land.heights[c] = 0;
        sight.aim(land, p);
        sight.look(land, trial);
        fitter.line = trial;
        if (fitter.leastStart() != NONE) {
            return 0;
        }
        int ray = sight.rayOf[c];
        for (int h = 1; h <= MOST_HEIGHT && ray != NONE; h++) {
            land.heights[c] = h;
            if (sight.changes(land, trial, ray) && fitter.leastStart() != NONE) {
                return h;
            }
        }
        return NONE;
    }

    // Two sketches, and ways over a land

    public int pairs(int land, int one, int other, int l) {
        Land it = landAt(land);
        if (it == null || l < 0 || l > MOST_HAZE) {
            return NONE;
        }
        if (!marksFitting(land, one, NONE, here) || !marksFitting(land, other, NONE, there)) {
            return NONE;
        }
        int pairs = 0;
        for (int p = 0; p < it.places(); p++) {
            for (int q = 0; q < it.places() && here[p]; q++) {
                if (there[q] && it.apart(p, q) <= l) {
                    pairs++;
                }
            }
        }
        return pairs;
    }

    public int way(int land, int one, int other, int c) {
        Land it = landAt(land);
        if (it == null || c < 0 || c > MOST_HEIGHT) {
            return NONE;
        }
        if (!marksFitting(land, one, NONE, here) || !marksFitting(land, other, NONE, there)) {
            return NONE;
        }
        walker.ready(it, c);
        for (int p = 0; p < it.places(); p++) {
            if (here[p]) {
                walker.begin(p);
            }
        }
        return walker.walkTo(there);
    }

    public int sneak(int land, int a, int b, int p) {
        Land it = landAt(land);
        Skyline line = lineAt(land, p);
        if (it == null || line == null || !it.has(a) || !it.has(b)) {
            return NONE;
        }
        walker.ready(it, MOST_HEIGHT);
        walker.shutSeen(line, p);
        wipe(there);
        there[b] = true;
        walker.begin(a);
        return walker.walkTo(there);
    }

    public int proud(int land, int p) {
        Land it = landAt(land);
        if (it == null || !it.has(p)) {
            return NONE;
        }
        return it.heights[p] - walker.saddle(it, p);
    }

    public int peaks(int land) {
        Land it = landAt(land);
        if (it == null) {
            return NONE;
        }
        int peaks = 0;
        for (int p = 0; p < it.places(); p++) {
            if (it.isPeak(p)) {
                peaks++;
            }
        }
        return peaks;
    }

    // Sketches drawn from a place

    private static boolean canDraw(Skyline line, int start, int n, int most) {
        return line != null && line.hasHump(start) && n >= 1 && n <= line.humps && n <= most;
    }

    public int draw(int land, int p, int start, int n, int at) {
        Skyline line = lineAt(land, p);
        int number = slotFor(SKETCH, at);
        if (number == NO_SUCH || !canDraw(line, start, n, MOST_HUMPS)) {
            return NONE;
        }
        draft.drawFrom(line, start, n);
        keepSketch(number, draft);
        return number;
    }

    public int rivals(int land, int p, int start, int n) {
        Scene scene = sceneAt(land);
        Skyline line = lineAt(land, p);
        if (scene == null || !canDraw(line, start, n, MOST_HUMPS)) {
            return NONE;
        }
        draft.drawFrom(line, start, n);
        fitter.hold(scene.land, draft, NONE);
        return countFitting(scene, p, MOST_PLACES);
    }

    public int known(int land, int p) {
        Scene scene = sceneAt(land);
        Skyline line = lineAt(land, p);
        if (scene == null || line == null) {
            return NONE;
        }
        for (int n = 1; n <= line.humps && n <= MOST_HUMPS; n++) {
            for (int start = 0; start < line.humps; start++) {
                draft.drawFrom(line, start, n);
                fitter.hold(scene.land, draft, NONE);
                if (countFitting(scene, p, 1) == 0) {
                    return n;
                }
            }
        }
        return NONE;
    }

    public int scrawl(int land, int p, int start, int n, int seed, int e, int at) {
        Skyline line = lineAt(land, p);
        int number = slotFor(SKETCH, at);
        if (number == NO_SUCH || !canDraw(line, start, n, MOST_SCRAWLED) || e < 0 || e > MOST_ERROR) {
            return NONE;
        }
        draft.drawFrom(line, start, n);
        draft.scrawlOver(seed, e);
        keepSketch(number, draft);
        return number;
    }

    public int found(int land, int p, int start, int n, int seed, int e, int w, boolean alone) {
        Scene scene = sceneAt(land);
        Skyline line = lineAt(land, p);
        if (scene == null || !canDraw(line, start, n, MOST_SCRAWLED)) {
            return NONE;
        }
        if (e < 0 || e > MOST_ERROR || w < 1 || w > MOST_WORLDS) {
            return NONE;
        }
        int found = 0;
        for (int world = 0; world < w; world++) {
            draft.drawFrom(line, start, n);
            draft.scrawlOver(seed + world, e);
            fitter.hold(scene.land, draft, NONE);
            fitter.line = line;
            if (fitter.leastStart() != NONE && !(alone && countFitting(scene, p, 1) > 0)) {
                found++;
            }
        }
        return found;
    }

    // How wrong a sketch is

    public int stretch(int land, int sketch, int p, int start, boolean most, boolean under) {
        if (!facesPlace(land, sketch, p, NONE) || !fitter.canStand(start)) {
            return NONE;
        }
        return fitter.stretched(start, most, under);
    }

    public int wrong(int land, int sketch, int p, int start) {
        if (!facesPlace(land, sketch, p, NONE) || !fitter.canStand(start)) {
            return NONE;
        }
        return fitter.countWrong(start, NO_LIMIT);
    }

    public int nearest(int land, int sketch, boolean much) {
        Scene scene = sceneAt(land);
        if (scene == null || !takesUp(land, sketch, NONE)) {
            return NONE;
        }
        int nearest = NONE;
        int least = NO_LIMIT;
        for (int p = 0; p < scene.land.places() && least > 0; p++) {
            fitter.line = scene.lineOf(p);
            int wrong = fitter.leastWrong(least);
            if (wrong < least) {
                least = wrong;
                nearest = p;
            }
        }
        return much && nearest != NONE ? least : nearest;
    }

    /** All that an image holds. */
    private static final class State {
        final int[] tape = new int[TAPE_BYTES];
        int length;
        int fault;
        int faultAt = NONE;
        int lands;
        int sketches;
        final Land[] land = new Land[MOST_LANDS];
        final Sketch[] sketch = new Sketch[MOST_SKETCHES];

        State() {
            for (int i = 0; i < MOST_LANDS; i++) {
                land[i] = new Land();
            }
            for (int i = 0; i < MOST_SKETCHES; i++) {
                sketch[i] = new Sketch();
            }
        }

        void append(int number) {
            for (int turn = 24; turn >= 0; turn -= 8) {
                if (length < TAPE_BYTES) {
                    tape[length] = number >>> turn & 255;
                    length++;
                }
            }
        }

        void take(State from) {
            System.arraycopy(from.tape, 0, tape, 0, TAPE_BYTES);
            length = from.length;
            fault = from.fault;
            faultAt = from.faultAt;
            lands = from.lands;
            sketches = from.sketches;
            for (int i = 0; i < MOST_LANDS; i++) {
                land[i].take(from.land[i]);
            }
            for (int i = 0; i < MOST_SKETCHES; i++) {
                sketch[i].take(from.sketch[i]);
            }
        }
    }

    /** Heights on a grid, and the things that stand there. */
    private static final class Land {
        int width = FIRST_SIDE;
        int depth = FIRST_SIDE;
        int eye;
        int bend;
        int haze = MOST_HAZE;
        int things;
        final int[] heights = new int[MOST_PLACES];
        final int[] thingAt = new int[MOST_THINGS];
        final boolean[] tower = new boolean[MOST_THINGS];
        final int[] from = new int[MOST_THINGS];
        final int[] to = new int[MOST_THINGS];

        void clear() {
            width = FIRST_SIDE;
            depth = FIRST_SIDE;
            eye = 0;
            bend = 0;
            haze = MOST_HAZE;
            things = 0;
            Arrays.fill(heights, 0);
        }

        void take(Land other) {
            width = other.width;
            depth = other.depth;
            eye = other.eye;
            bend = other.bend;
            haze = other.haze;
            things = other.things;
            System.arraycopy(other.heights, 0, heights, 0, MOST_PLACES);
            System.arraycopy(other.thingAt, 0, thingAt, 0, MOST_THINGS);
            System.arraycopy(other.from, 0, from, 0, MOST_THINGS);
            System.arraycopy(other.to, 0, to, 0, MOST_THINGS);
            for (int k = 0; k < MOST_THINGS; k++) {
                tower[k] = other.tower[k];
            }
        }

        void addThing(int place, boolean isTower, int first, int last) {
            if (things < MOST_THINGS) {
                thingAt[things] = place;
                tower[things] = isTower;
                from[things] = first;
                to[things] = last;
                things++;
            }
        }

        /** What is asked of a thing: its number is added to 10, 30, 50 or 70. */
        int tellThing(int what) {
            if (hasThing(what - 10)) {
                return thingAt[what - 10];
            }
            if (hasThing(what - 30)) {
                return tower[what - 30] ? 1 : 0;
            }
            if (hasThing(what - 50)) {
                return from[what - 50];
            }
            return hasThing(what - 70) ? to[what - 70] : NONE;
        }

        private boolean hasThing(int k) {
            return k >= 0 && k < things && k < MOST_THINGS;
        }

        int places() {
            int places = width * depth;
            return places < MOST_PLACES ? places : MOST_PLACES;
        }

        boolean has(int p) {
            return p >= 0 && p < places();
        }

        int column(int p) {
            return width > 0 ? p % width : 0;
        }

        int row(int p) {
            return width > 0 ? p / width : 0;
        }

        /** The distance squared. */
        int apart(int p, int q) {
            int x = column(p) - column(q);
            int y = row(p) - row(q);
            return x * x + y * y;
        }

        /** The rise of q from p, d being their distance squared. */
        int lift(int p, int q, int d) {
            if (p < 0 || p >= MOST_PLACES || q < 0 || q >= MOST_PLACES) {
                return 0;
            }
            return heights[q] - bend * d / HUNDRED - heights[p] - eye;
        }

        /** The neighbour to the north, east, south or west, or NONE. */
        int neighbour(int p, int side) {
            switch (side) {
                case 0:
                    return row(p) > 0 ? p - width : NONE;
                case 1:
                    return column(p) < width - 1 ? p + 1 : NONE;
                case 2:
                    return row(p) < depth - 1 ? p + width : NONE;
                default:
                    return column(p) > 0 ? p - 1 : NONE;
            }
        }

        boolean isPeak(int p) {
            for (int side = 0; side < SIDES; side++) {
                int q = neighbour(p, side);
                if (has(p) && has(q) && heights[q] >= heights[p]) {
                    return false;
                }
            }
            return true;
        }

        boolean hasTower(int place, int year) {
            for (int k = 0; k < things && k < MOST_THINGS; k++) {
                if (tower[k] && thingAt[k] == place && from[k] <= year && year <= to[k]) {
                    return true;
                }
            }
            return false;
        }
    }

    /** Humps in a row, and by what rule they were drawn. */
    private static final class Sketch {
        int humps;
        int give;
        boolean real;
        boolean half;
        boolean turned;
        int from;
        int to = LAST;
        final int[] height = new int[MOST_HUMPS];
        final int[] marks = new int[MOST_HUMPS];

        void clear() {
            humps = 0;
            give = 0;
            real = false;
            half = false;
            turned = false;
            from = 0;
            to = LAST;
            Arrays.fill(marks, 0);
        }

        void take(Sketch other) {
            humps = other.humps;
            give = other.give;
            real = other.real;
            half = other.half;
            turned = other.turned;
            from = other.from;
            to = other.to;
            System.arraycopy(other.height, 0, height, 0, MOST_HUMPS);
            System.arraycopy(other.marks, 0, marks, 0, MOST_HUMPS);
        }

        /** What is asked of a hump: its number is added to 10 or 30. */
        int tellHump(int what) {
            if (hasHump(what - 10)) {
                return height[what - 10];
            }
            return hasHump(what - 30) ? marks[what - 30] : NONE;
        }

        private boolean hasHump(int i) {
            return i >= 0 && i < humps && i < MOST_HUMPS;
        }

        boolean isMarked(int i, int mark) {
            return i >= 0 && i < humps && i < MOST_HUMPS && (marks[i] & mark) != 0;
        }

        /** Whether some hump asks for a tower or for none, so that it matters in which year it was drawn. */
        boolean asksForYears() {
            for (int i = 0; i < humps; i++) {
                if (isMarked(i, HAS_TOWER | IS_BARE)) {
                    return true;
                }
            }
            return false;
        }

        void drawFrom(Skyline line, int start, int n) {
            clear();
            humps = Math.min(n, MOST_HUMPS);
            half = n < line.humps;
            for (int i = 0; i < humps; i++) {
                height[i] = 1 + lessSteep(line, start, i);
            }
        }

        private int lessSteep(Skyline line, int start, int i) {
            int ray = line.rayOfHump(start + i);
            int less = 0;
            for (int k = 0; k < humps; k++) {
                if (line.weigh(line.rayOfHump(start + k), ray) < 0) {
                    less++;
                }
            }
            return less;
        }

        /** Draws what has been drawn again, ten times as high, by a hand that errs by e. */
        void scrawlOver(int seed, int e) {
            int x = seed;
            int choices = 2 * e + 1;
            for (int i = 0; i < humps && i < MOST_HUMPS && choices > 0; i++) {
                x = x * 1103515245 + 12345;
                int drawn = 10 * height[i] + (x >>> 16) % choices - e;
                height[i] = Math.min(Math.max(drawn, 1), LAST);
            }
            give = 2 * e;
        }
    }

    /** Reads the tape's tokens and makes a land or a sketch of them, or tells the fault. */
    private static final class Reader {
        private static final int END = 0;
        private static final int WORD = 1;
        private static final int NUMBER = 2;
        private static final int STOP = 3;
        private static final int OTHER = 4;

        private static final int NO_TEXT = 1;
        private static final int CANNOT_BE = 2;
        private static final int TOO_MANY = 3;
        private static final int NOT_WHOLE = 4;

        private static final int LONGEST_NUMBER = 3;

        final Land land = new Land();
        final Sketch sketch = new Sketch();
        int fault;
        int faultAt;

        private int[] tape = new int[0];
        private int length;
        private int next;
        private int kind;
        private int tokenAt;
        private int told;

        void readLand(int[] bytes, int count) {
            open(bytes, count);
            land.clear();
            told = 0;
            for (int turn = 0; turn <= TAPE_BYTES && kind != END && fault != NO_TEXT; turn++) {
                landClause();
            }
            if (fault == 0 && !landIsWhole()) {
                note(NOT_WHOLE, length);
            }
        }

        void readSketch(int[] bytes, int count) {
            open(bytes, count);
            sketch.clear();
            for (int turn = 0; turn <= TAPE_BYTES && kind != END && fault != NO_TEXT; turn++) {
                sketchClause();
            }
            if (fault == 0 && sketch.humps == 0) {
                note(NOT_WHOLE, length);
            }
        }

        private void open(int[] bytes, int count) {
            tape = bytes;
            length = Math.max(0, Math.min(count, bytes.length));
            next = 0;
            fault = 0;
            faultAt = NONE;
            advance();
        }

        private boolean landIsWhole() {
            if (told > land.places()) {
                return false;
            }
            for (int k = 0; k < land.things && k < MOST_THINGS; k++) {
                if (!land.has(land.thingAt[k])) {
                    return false;
                }
            }
            return true;
        }

        private void landClause() {
            if (isWord("size")) {
                advance();
                land.width = readNumber(LEAST_SIDE, MOST_SIDE);
                land.depth = readNumber(LEAST_SIDE, MOST_SIDE);
            } else if (isWord("heights")) {
                advance();
                readHeights();
            } else if (isWord("eye")) {
                advance();
                land.eye = readNumber(0, MOST_EYE);
            } else if (isWord("bend")) {
                advance();
                land.bend = readNumber(0, LAST);
            } else if (isWord("haze")) {
                advance();
                land.haze = readNumber(1, MOST_HAZE);
            } else if (isWord("lake")) {
                readThing(false);
            } else if (isWord("tower")) {
                readThing(true);
            } else {
                breakOff();
            }
            readStop();
        }

        private void readHeights() {
            readHeight();
            for (int turn = 0; turn < TAPE_BYTES && kind == NUMBER; turn++) {
                readHeight();
            }
        }

        private void readHeight() {
            if (told >= MOST_PLACES) {
                note(TOO_MANY, tokenAt);
            }
            int height = readNumber(0, MOST_HEIGHT);
            if (told < MOST_PLACES) {
                land.heights[told] = height;
            }
            told++;
        }

        private void readThing(boolean isTower) {
            if (land.things >= MOST_THINGS) {
                note(TOO_MANY, tokenAt);
            }
            advance();
            int place = readNumber(0, MOST_PLACES - 1);
            int first = isTower ? readNumber(0, LAST) : 0;
            int last = isTower ? readNumber(first, LAST) : LAST;
            land.addThing(place, isTower, first, last);
        }

        private void sketchClause() {
            if (isWord("hump")) {
                readHump();
            } else if (isWord("give")) {
                advance();
                sketch.give = readNumber(0, LAST);
            } else if (isWord("order") || isWord("true")) {
                sketch.real = isWord("true");
                advance();
            } else if (isWord("whole") || isWord("half")) {
                sketch.half = isWord("half");
                advance();
            } else if (isWord("turned")) {
                sketch.turned = true;
                advance();
            } else if (isWord("years")) {
                advance();
                sketch.from = readNumber(0, LAST);
                sketch.to = readNumber(sketch.from, LAST);
            } else {
                breakOff();
            }
            readStop();
        }

        private void readHump() {
            boolean room = sketch.humps < MOST_HUMPS;
            if (!room) {
                note(TOO_MANY, tokenAt);
            }
            advance();
            int height = readNumber(1, LAST);
            int marks = readMarks();
            if (room) {
                sketch.height[sketch.humps] = height;
                sketch.marks[sketch.humps] = marks;
                sketch.humps++;
            }
        }

        private int readMarks() {
            int marks = 0;
            int mark = markOf();
            for (int turn = 0; turn < TAPE_BYTES && mark != 0; turn++) {
                marks |= mark;
                if ((marks & HAS_TOWER) != 0 && (marks & IS_BARE) != 0) {
                    note(CANNOT_BE, tokenAt);
                }
                advance();
                mark = markOf();
            }
            return marks;
        }

        private int markOf() {
            if (isWord("lake")) {
                return HAS_LAKE;
            }
            if (isWord("tower")) {
                return HAS_TOWER;
            }
            return isWord("bare") ? IS_BARE : 0;
        }

        private int readNumber(int least, int most) {
            if (kind != NUMBER) {
                breakOff();
                return least;
            }
            int value = 0;
            for (int at = tokenAt; at < next && at >= 0 && at < tape.length; at++) {
                value = value * 10 + tape[at] - '0';
            }
            if (value < least || value > most) {
                note(CANNOT_BE, tokenAt);
            }
            advance();
            return value;
        }

        private void readStop() {
            if (kind == STOP) {
                advance();
            } else {
                breakOff();
            }
        }

        /** No text goes on so: this weighs more than any other fault, but the first of its kind stands. */
        private void breakOff() {
            if (fault != NO_TEXT) {
                fault = NO_TEXT;
                faultAt = tokenAt;
            }
        }

        /** Tokens are read in order, so the first fault is the first by place. */
        private void note(int what, int at) {
            if (fault == 0) {
                fault = what;
                faultAt = at;
            }
        }

        private void advance() {
            for (int turn = next; turn < length && isBlank(byteAt(next)); turn++) {
                next++;
            }
            tokenAt = next;
            int sign = byteAt(next);
            if (sign == NONE) {
                kind = END;
            } else if (isLetter(sign)) {
                kind = WORD;
                for (int turn = next; turn < length && isLetter(byteAt(next)); turn++) {
                    next++;
                }
            } else if (isDigit(sign)) {
                for (int turn = next; turn < length && isDigit(byteAt(next)); turn++) {
                    next++;
                }
                kind = next - tokenAt <= LONGEST_NUMBER ? NUMBER : OTHER;
            } else {
                kind = sign == ';' ? STOP : OTHER;
                next++;
            }
        }

        private int byteAt(int at) {
            return at >= 0 && at < length && at < tape.length ? tape[at] : NONE;
        }

        private static boolean isBlank(int sign) {
            return sign == 10 || sign == 32;
        }

        private static boolean isLetter(int sign) {
            return sign >= 'a' && sign <= 'z';
        }

        private static boolean isDigit(int sign) {
            return sign >= '0' && sign <= '9';
        }

        private boolean isWord(String word) {
            if (kind != WORD || next - tokenAt != word.length()) {
                return false;
            }
            for (int i = 0; i < word.length(); i++) {
                if (byteAt(tokenAt + i) != word.charAt(i)) {
                    return false;
                }
            }
            return true;
        }
    }

    /** All directions in which a place can lie, clockwise from north. */
    private static final class Compass {
        /** Eight times the fractions between 0 and 1 whose lower number is at most 11. */
        static final int DIRECTIONS = 336;
        private static final int QUARTER = 84;
        private static final int EIGHTH = 42;
        private static final int FARTHEST = 11;

        final int[] east = new int[DIRECTIONS];
        final int[] south = new int[DIRECTIONS];

        /** Farey's fractions, in order, are the directions from north to north-east; the rest are these, mirrored. */
        Compass() {
            int a = 0;
            int b = 1;
            int c = 1;
            int d = FARTHEST;
            for (int k = 0; k <= EIGHTH; k++) {
                east[k] = a;
                south[k] = -b;
                int times = d > 0 ? (FARTHEST + b) / d : 0;
                int above = times * c - a;
                int below = times * d - b;
                a = c;
                b = d;
                c = above;
                d = below;
            }
            for (int k = EIGHTH + 1; k < QUARTER; k++) {
                east[k] = -south[QUARTER - k];
                south[k] = -east[QUARTER - k];
            }
            for (int k = QUARTER; k < DIRECTIONS; k++) {
                east[k] = -south[k - QUARTER];
                south[k] = east[k - QUARTER];
            }
        }
    }

    /** What is seen from one place: rays, humps, lakes. */
    private static final class Skyline {
        int version = NONE;
        int rays;
        int humps;
        int lakes;
        final int[] top = new int[MOST_RAYS];
        final int[] slope = new int[MOST_RAYS];
        final int[] dist = new int[MOST_RAYS];
        final int[] hump = new int[MOST_SEEN_HUMPS];
        final int[] lake = new int[MOST_THINGS];
        final long[] shown = new long[MASK_WORDS];

        void addHump(int ray) {
            if (humps < MOST_SEEN_HUMPS) {
                hump[humps] = ray;
                humps++;
            }
        }

        void addLake(int ray) {
            if (lakes < MOST_THINGS) {
                lake[lakes] = ray;
                lakes++;
            }
        }

        boolean hasHump(int k) {
            return k >= 0 && k < humps && k < MOST_SEEN_HUMPS;
        }

        /** The ray of a hump; numbers go around once more behind the last one. */
        int rayOfHump(int k) {
            int at = k >= humps ? k - humps : k;
            return hasHump(at) ? hump[at] : 0;
        }

        int topOfRay(int k) {
            return k >= 0 && k < rays && k < MOST_RAYS ? top[k] : NONE;
        }

        int topOfHump(int k) {
            return hasHump(k) ? topOfRay(hump[k]) : NONE;
        }

        boolean hasTop(int place) {
            for (int k = 0; k < humps; k++) {
                if (topOfHump(k) == place) {
                    return true;
                }
            }
            return false;
        }

        /** 1 if the top of the one ray is steeper, -1 if that of the other one is: rises squared, with their signs. */
        int weigh(int one, int other) {
            if (one < 0 || one >= MOST_RAYS || other < 0 || other >= MOST_RAYS) {
                return 0;
            }
            int more = slope[one] * dist[other] - slope[other] * dist[one];
            return more > 0 ? 1 : more < 0 ? -1 : 0;
        }

        void show(int place, boolean yes) {
            int word = place >> 6;
            if (word >= 0 && word < MASK_WORDS) {
                long bit = 1L << (place & 63);
                shown[word] = yes ? shown[word] | bit : shown[word] & ~bit;
            }
        }

        boolean shows(int place) {
            int word = place >> 6;
            return word >= 0 && word < MASK_WORDS && (shown[word] >>> (place & 63) & 1L) != 0;
        }

        int countShown() {
            int count = 0;
            for (int word = 0; word < MASK_WORDS; word++) {
                count += Long.bitCount(shown[word]);
            }
            return count;
        }
    }

    /** Looks around from one place; its rows are used again for each look. */
    private static final class Sight {
        private final Compass compass = new Compass();
        final int[] rayOf = new int[MOST_PLACES];
        private final int[] order = new int[MOST_PLACES];
        private final int[] dist = new int[MOST_PLACES];
        private final int[] begin = new int[MOST_RAYS + 1];
        private int from;
        private int rays;
        private int placed;

        /** Puts the places in haze in order, ray by ray, the nearest of each first. */
        void aim(Land land, int p) {
            from = p;
            rays = 0;
            placed = 0;
            begin[0] = 0;
            Arrays.fill(rayOf, NONE);
            int x = land.column(p);
            int y = land.row(p);
            for (int k = 0; k < Compass.DIRECTIONS && rays < MOST_RAYS; k++) {
                followRay(land, x, y, compass.east[k], compass.south[k]);
            }
        }

        private void followRay(Land land, int fromX, int fromY, int east, int south) {
            int unit = east * east + south * south;
            for (int step = 1; step < MOST_SIDE; step++) {
                int x = fromX + step * east;
                int y = fromY + step * south;
                int d = step * step * unit;
                if (x < 0 || x >= land.width || y < 0 || y >= land.depth || d > land.haze) {
                    break;
                }
                addPlace(y * land.width + x, d);
            }
            if (placed > begin[rays] && rays < MOST_RAYS) {
                rays++;
                begin[rays] = placed;
            }
        }

        private void addPlace(int place, int d) {
            if (placed < MOST_PLACES && place >= 0 && place < MOST_PLACES) {
                order[placed] = place;
                dist[placed] = d;
                rayOf[place] = rays;
                placed++;
            }
        }

        /** Looks along all rays of the place aimed from. */
        void look(Land land, Skyline line) {
            line.rays = rays;
            Arrays.fill(line.shown, 0L);
            for (int ray = 0; ray < rays; ray++) {
                lookAlong(land, line, ray);
            }
            pickHumps(line);
            pickLakes(land, line);
        }

        /** Looks along one ray again; false if nothing is seen otherwise there. */
        boolean changes(Land land, Skyline line, int ray) {
            if (ray < 0 || ray >= rays || ray >= MOST_RAYS) {
                return false;
            }
            int top = line.top[ray];
            int slope = line.slope[ray];
            long low = line.shown[0];
            long middle = line.shown[1];
            long high = line.shown[2];
            lookAlong(land, line, ray);
            boolean same = top == line.top[ray] && slope == line.slope[ray]
                && low == line.shown[0] && middle == line.shown[1] && high == line.shown[2];
            if (!same) {
                pickHumps(line);
                pickLakes(land, line);
            }
            return !same;
        }

        /** A place steeper than all nearer ones is seen, so the last one seen is the top. */
        private void lookAlong(Land land, Skyline line, int ray) {
            if (ray < 0 || ray >= MOST_RAYS) {
                return;
            }
            for (int j = begin[ray]; j < begin[ray + 1] && j >= 0 && j < MOST_PLACES; j++) {
                int rise = land.lift(from, order[j], dist[j]);
                int slope = rise * Math.abs(rise);
                boolean seen = j == begin[ray] || slope * line.dist[ray] > line.slope[ray] * dist[j];
                if (seen) {
                    line.top[ray] = order[j];
                    line.slope[ray] = slope;
                    line.dist[ray] = dist[j];
                }
                line.show(order[j], seen);
            }
        }

        private void pickHumps(Skyline line) {
            line.humps = 0;
            if (line.rays < 3) {
                return;
            }
            int ahead = line.rays - 1;
            for (int ray = 0; ray < line.rays && ray < MOST_RAYS; ray++) {
                int behind = ray + 1 < line.rays ? ray + 1 : 0;
                if (line.weigh(ray, ahead) > 0 && line.weigh(ray, behind) >= 0) {
                    line.addHump(ray);
                }
                ahead = ray;
            }
        }

        private void pickLakes(Land land, Skyline line) {
            line.lakes = 0;
            for (int k = 0; k < land.things && k < MOST_THINGS; k++) {
                int place = land.thingAt[k];
                if (!land.tower[k] && place >= 0 && place < MOST_PLACES && line.shows(place)) {
                    line.addLake(rayOf[place]);
                }
            }
        }
    }

    /** The skylines of a land, each looked at when it is first asked for. */
    private static final class Scene {
        /** Far above the rows of three that there are. */
        private static final int MOST_TURNS = 1000000;

        final Land land;
        int version;
        final int[] guard = new int[MOST_GUARDS];
        private final Sight sight;
        private final Skyline blank = new Skyline();
        private final Skyline[] lines = new Skyline[MOST_PLACES];
        private final long[] watched = new long[MASK_WORDS * MOST_PLACES];
        private final long[] left = new long[MASK_WORDS * (MOST_GUARDS + 1)];
        private int guardsFound;
        private int guardsVersion = NONE;
        private int widest;

        Scene(Land land, Sight sight) {
            this.land = land;
            this.sight = sight;
        }

        Skyline lineOf(int p) {
            if (p < 0 || p >= MOST_PLACES) {
                return blank;
            }
            if (lines[p] == null) {
                lines[p] = new Skyline();
            }
            Skyline line = lines[p];
            if (line.version != version) {
                sight.aim(land, p);
                sight.look(land, line);
                line.version = version;
            }
            return line;
        }

        /** The fewest places that watch all others, or NONE; which ones is kept in guard. */
        int guardCount() {
            if (guardsVersion != version) {
                guardsFound = findGuards();
                guardsVersion = version;
            }
            return guardsFound;
        }

        private int findGuards() {
            Arrays.fill(left, 0L);
            widest = 0;
            for (int p = 0; p < land.places(); p++) {
                Skyline line = lineOf(p);
                widest = Math.max(widest, line.countShown() + 1);
                for (int word = 0; word < MASK_WORDS; word++) {
                    long own = p >> 6 == word ? 1L << (p & 63) : 0L;
                    left[word] |= own;
                    watched[p * MASK_WORDS + word] = line.shown[word] | own;
                }
            }
            for (int size = 1; size <= MOST_GUARDS; size++) {
                if (posts(size)) {
                    return size;
                }
            }
            return NONE;
        }

        /** Tries rows of so many guards in order, so that the first one found is the least. */
        private boolean posts(int size) {
            int depth = 0;
            guard[0] = NONE;
            for (int turn = 0; turn < MOST_TURNS && depth >= 0 && depth < MOST_GUARDS; turn++) {
                guard[depth]++;
                if (guard[depth] >= land.places()) {
                    depth--;
                    continue;
                }
                int unwatched = watch(depth, guard[depth]);
                int more = size - depth - 1;
                if (unwatched == 0 && more == 0) {
                    return true;
                }
                if (more > 0 && unwatched <= more * widest) {
                    depth++;
                    guard[depth] = guard[depth - 1];
                }
            }
            return false;
        }

        /** How many places are left unwatched with one guard more. */
        private int watch(int depth, int p) {
            if (depth < 0 || depth >= MOST_GUARDS || p < 0 || p >= MOST_PLACES) {
                return 0;
            }
            int count = 0;
            for (int word = 0; word < MASK_WORDS; word++) {
                int at = depth * MASK_WORDS + word;
                left[at + MASK_WORDS] = left[at] & ~watched[p * MASK_WORDS + word];
                count += Long.bitCount(left[at + MASK_WORDS]);
            }
            return count;
        }
    }

    /** Holds a sketch against skylines. */
    private static final class Fitter {
        private static final int MOST_SPANS = 2 * MOST_THINGS + 1;
        /** Each try doubts one more of eight humps and leads to two others. */
        private static final int MOST_TRIES = 512;

        Land land = new Land();
        Sketch sketch = new Sketch();
        Skyline line = new Skyline();
        int spans;
        private final int[] spanFrom = new int[MOST_SPANS];
        private int firstSpan;
        private int lastSpan;
        private int lastYear;
        private boolean byYears;
        private final int[] spot = new int[MOST_HUMPS];
        private final int[] against = new int[MOST_HUMPS];
        private final int[] tries = new int[2 * MOST_DOUBTED];

        /** Takes up a sketch for one year, or (NONE) for all of its own. */
        void hold(Land ground, Sketch drawn, int year) {
            land = ground;
            sketch = drawn;
            byYears = drawn.asksForYears();
            spans = 0;
            lastYear = year == NONE ? drawn.to : year;
            addSpan(year == NONE ? drawn.from : year);
            for (int k = 0; byYears && year == NONE && k < land.things && k < MOST_THINGS; k++) {
                if (land.tower[k]) {
                    addSpan(land.from[k]);
                    addSpan(land.to[k] + 1);
                }
            }
            firstSpan = 0;
            lastSpan = spans - 1;
        }

        /** Between two years in which a tower comes or goes all years are alike: one of each such span is enough. */
        private void addSpan(int year) {
            if (spans >= MOST_SPANS || spans > 0 && (year <= spanFrom[0] || year > lastYear)) {
                return;
            }
            int at = spans;
            for (int k = spans - 1; k >= 0 && spanFrom[k] >= year; k--) {
                if (spanFrom[k] == year) {
                    return;
                }
                at = k;
            }
            for (int k = spans; k > at; k--) {
                spanFrom[k] = spanFrom[k - 1];
            }
            spanFrom[at] = year;
            spans++;
        }

        int yearFrom(int span) {
            return span >= 0 && span < spans && span < MOST_SPANS ? spanFrom[span] : NONE;
        }

        int yearTo(int span) {
            return span + 1 < spans ? yearFrom(span + 1) - 1 : lastYear;
        }

        /** From now on only the years of one span count. */
        void narrow(int span) {
            firstSpan = span;
            lastSpan = span;
        }

        boolean canBe() {
            return sketch.humps == line.humps || sketch.half && sketch.humps < line.humps;
        }

        boolean canStand(int start) {
            return canBe() && line.hasHump(start);
        }

        /** The ray of the hump that hump i of the sketch is, from a start on. */
        private int rayFor(int start, int i) {
            int at = sketch.turned ? start - i : start + i;
            return line.rayOfHump(at < 0 ? at + line.humps : at);
        }

        private void stand(int start) {
            for (int i = 0; i < sketch.humps && i < MOST_HUMPS; i++) {
                spot[i] = rayFor(start, i);
            }
        }

        /** The first hump that does not fit, by the best year of those that count. */
        int reach(int start) {
            if (!canBe()) {
                return 0;
            }
            int reached = 0;
            for (int i = 0; i < sketch.humps && i < MOST_HUMPS; i++) {
                spot[i] = rayFor(start, i);
                if (!holdsInAnyYear(i)) {
                    break;
                }
                reached++;
            }
            return byYears ? reachByYears(reached) : reached;
        }

        private boolean holdsInAnyYear(int i) {
            for (int k = 0; k < i; k++) {
                if (!agree(i, k)) {
                    return false;
                }
            }
            return !lacksLake(i);
        }

        private int reachByYears(int limit) {
            int best = 0;
            for (int span = firstSpan; span <= lastSpan && best < limit; span++) {
                int year = yearFrom(span);
                int reached = 0;
                while (reached < limit && !lacksTower(reached, year)) {
                    reached++;
                }
                best = Math.max(best, reached);
            }
            return best;
        }

        int leastStart() {
            for (int start = 0; start < line.humps && canBe(); start++) {
                if (reach(start) == sketch.humps) {
                    return start;
                }
            }
            return NONE;
        }

        int greatestReach() {
            int best = 0;
            for (int start = 0; start < line.humps && best < sketch.humps && canBe(); start++) {
                best = Math.max(best, reach(start));
            }
            return best;
        }

        /** Marks the tops that hump i is, from all starts that fit. */
        void markTops(int i, boolean[] marks) {
            for (int start = 0; start < line.humps && canBe(); start++) {
                if (reach(start) == sketch.humps) {
                    int top = line.topOfRay(rayFor(start, i));
                    if (top >= 0 && top < marks.length) {
                        marks[top] = true;
                    }
                }
            }
        }

        /** Whether what is asked of the heights of humps i and k, k below i, holds. */
        private boolean agree(int i, int k) {
            if (i < 0 || i >= MOST_HUMPS || k < 0 || k >= MOST_HUMPS) {
                return false;
            }
            if (sketch.real) {
                return inProportion(sketch.height[i], sketch.height[k], spot[i], spot[k]);
            }
            int more = sketch.height[i] - sketch.height[k];
            if (Math.abs(more) <= sketch.give) {
                return true;
            }
            int steeper = line.weigh(spot[i], spot[k]);
            return more > 0 ? steeper > 0 : steeper < 0;
        }

        /** Both sides are taken times both distances squared, so that nothing is cut. */
        private boolean inProportion(long high, long low, int one, int other) {
            if (one < 0 || one >= MOST_RAYS || other < 0 || other >= MOST_RAYS) {
                return false;
            }
            if (line.slope[one] <= 0 || line.slope[other] <= 0) {
                return false;
            }
            long a = high * high * line.slope[other] * line.dist[one];
            long b = low * low * line.slope[one] * line.dist[other];
            return HUNDRED * Math.abs(a - b) <= sketch.give * b;
        }

        private boolean lacksLake(int i) {
            if (i <= 0 || i >= MOST_HUMPS || !sketch.isMarked(i, HAS_LAKE)) {
                return false;
            }
            int from = sketch.turned ? spot[i] : spot[i - 1];
            int to = sketch.turned ? spot[i - 1] : spot[i];
            for (int k = 0; k < line.lakes && k < MOST_THINGS; k++) {
                int turn = clockwise(from, line.lake[k]);
                if (turn > 0 && turn < clockwise(from, to)) {
                    return false;
                }
            }
            return true;
        }

        private int clockwise(int from, int to) {
            return to >= from ? to - from : to - from + line.rays;
        }

        private boolean lacksTower(int i, int year) {
            if (i < 0 || i >= MOST_HUMPS || !sketch.isMarked(i, HAS_TOWER | IS_BARE)) {
                return false;
            }
            return land.hasTower(line.topOfRay(spot[i]), year) != sketch.isMarked(i, HAS_TOWER);
        }

        /** The fewest humps to doubt at this place, if they are fewer than the best so far. */
        int doubted(int best) {
            int fewest = best;
            for (int start = 0; start < line.humps && canBe() && fewest != 0; start++) {
                stand(start);
                int needed = findClashes();
                for (int span = firstSpan; span <= lastSpan; span++) {
                    fewest = fewestWith(needed | withoutTower(yearFrom(span)), fewest);
                }
            }
            return fewest;
        }

        /** Notes which heights clash; answers which humps lack their lakes (bits). */
        private int findClashes() {
            int lacking = 0;
            for (int i = 0; i < sketch.humps && i < MOST_DOUBTED; i++) {
                against[i] = 0;
                for (int k = 0; k < i; k++) {
                    if (!agree(i, k)) {
                        against[i] |= 1 << k;
                        against[k] |= 1 << i;
                    }
                }
                if (lacksLake(i)) {
                    lacking |= 1 << i;
                }
            }
            return lacking;
        }

        private int withoutTower(int year) {
            int lacking = 0;
            for (int i = 0; i < sketch.humps && i < MOST_DOUBTED; i++) {
                if (lacksTower(i, year)) {
                    lacking |= 1 << i;
                }
            }
            return lacking;
        }

        /** Of a hump and those that it clashes with, it is doubted or they are: both are tried, the former first. */
        private int fewestWith(int needed, int best) {
            int fewest = best;
            int open = 1;
            tries[0] = needed;
            for (int turn = 0; turn < MOST_TRIES && open > 0; turn++) {
                open--;
                int set = tries[open];
                int clash = firstClash(set);
                boolean mayAdd = fewest == NONE || Integer.bitCount(set) < Integer.bitCount(fewest);
                if (clash == NONE) {
                    fewest = isFewer(set, fewest) ? set : fewest;
                } else if (mayAdd && open + 1 < tries.length) {
                    tries[open] = set | against[clash];
                    tries[open + 1] = set | 1 << clash;
                    open += 2;
                }
            }
            return fewest;
        }

        private static boolean isFewer(int set, int best) {
            int more = Integer.bitCount(set) - Integer.bitCount(best);
            return best == NONE || more < 0 || more == 0 && set < best;
        }

        /** The first hump outside of a set that clashes with another one outside, or NONE. */
        private int firstClash(int set) {
            for (int i = 0; i < sketch.humps && i < MOST_DOUBTED; i++) {
                if ((set >> i & 1) == 0 && (against[i] & ~set) != 0) {
                    return i;
                }
            }
            return NONE;
        }

        /** The least or greatest of height squared by steepness squared, above or below the line. */
        int stretched(int start, boolean most, boolean under) {
            stand(start);
            long above = 0;
            long below = 0;
            for (int i = 0; i < sketch.humps && i < MOST_HUMPS; i++) {
                int ray = spot[i];
                if (ray >= 0 && ray < MOST_RAYS && line.slope[ray] > 0) {
                    long over = (long) sketch.height[i] * sketch.height[i] * line.dist[ray];
                    long by = line.slope[ray];
                    long more = over * below - above * by;
                    if (below == 0 || (most ? more > 0 : more < 0)) {
                        above = over;
                        below = by;
                    }
                }
            }
            long common = commonDivisor(above, below);
            return below > 0 && common > 0 ? (int) ((under ? below : above) / common) : NONE;
        }

        private static long commonDivisor(long one, long other) {
            long a = one;
            long b = other;
            for (int turn = 0; turn < MOST_DIVISIONS && b != 0; turn++) {
                long rest = a % b;
                a = b;
                b = rest;
            }
            return a;
        }

        /** How many couples clash; it stops counting at the limit. */
        int countWrong(int start, int limit) {
            stand(start);
            int wrong = 0;
            for (int i = 1; i < sketch.humps && i < MOST_HUMPS; i++) {
                for (int k = 0; k < i && wrong < limit; k++) {
                    if (!agree(i, k)) {
                        wrong++;
                    }
                }
            }
            return wrong;
        }

        /** The least count of all starts, or the limit if none is less. */
        int leastWrong(int limit) {
            int least = limit;
            for (int start = 0; start < line.humps && canBe(); start++) {
                least = Math.min(least, countWrong(start, least));
            }
            return least;
        }
    }

    /** Goes over a land, each step to one of four neighbours. */
    private static final class Walker {
        private Land land = new Land();
        private int climb;
        private final boolean[] shut = new boolean[MOST_PLACES];
        private final int[] steps = new int[MOST_PLACES];
        private final int[] queue = new int[MOST_PLACES];
        private final int[] level = new int[MOST_PLACES];
        private int queued;

        void ready(Land ground, int mostClimb) {
            land = ground;
            climb = mostClimb;
            queued = 0;
            wipe(shut);
            Arrays.fill(steps, NONE);
        }

        void shutSeen(Skyline line, int p) {
            for (int q = 0; q < MOST_PLACES; q++) {
                shut[q] = q == p || line.shows(q);
            }
        }

        void begin(int p) {
            enqueue(p, 0);
        }

        private void enqueue(int p, int step) {
            if (land.has(p) && !shut[p] && steps[p] == NONE && queued < MOST_PLACES) {
                steps[p] = step;
                queue[queued] = p;
                queued++;
            }
        }

        /** The fewest steps to a goal, or NONE. */
        int walkTo(boolean[] goal) {
            for (int head = 0; head < queued && head < MOST_PLACES; head++) {
                int p = queue[head];
                if (p >= 0 && p < goal.length && goal[p]) {
                    return steps[p];
                }
                for (int side = 0; side < SIDES; side++) {
                    int q = land.neighbour(p, side);
                    if (land.has(p) && land.has(q) && Math.abs(land.heights[q] - land.heights[p]) <= climb) {
                        enqueue(q, steps[p] + 1);
                    }
                }
            }
            return NONE;
        }

        /** How high one can stay all the way from p to a higher place; 0 if none is higher. */
        int saddle(Land ground, int p) {
            if (!ground.has(p)) {
                return 0;
            }
            ready(ground, MOST_HEIGHT);
            Arrays.fill(level, NONE);
            level[p] = ground.heights[p];
            for (int turn = 0; turn < MOST_PLACES; turn++) {
                int q = highestOpen();
                if (q == NONE) {
                    break;
                }
                if (ground.heights[q] > ground.heights[p]) {
                    return level[q];
                }
                shut[q] = true;
                raiseNeighbours(q);
            }
            return 0;
        }

        private int highestOpen() {
            int best = NONE;
            for (int q = 0; q < land.places(); q++) {
                if (!shut[q] && level[q] > (best == NONE ? NONE : level[best])) {
                    best = q;
                }
            }
            return best;
        }

        private void raiseNeighbours(int q) {
            for (int side = 0; side < SIDES; side++) {
                int r = land.neighbour(q, side);
                if (land.has(q) && land.has(r)) {
                    level[r] = Math.max(level[r], Math.min(level[q], land.heights[r]));
                }
            }
        }
    }
}
