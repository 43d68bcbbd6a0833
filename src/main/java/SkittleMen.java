import java.util.Arrays;

/** Nine men in a diamond, what is said to them, and what is only thought of it; see README.md. */
public final class SkittleMen {
    public static final int BAD = -1000000001, NO = -1000000002, FULL = -1000000003, NONE = -1000000005, NOTHING = -1000000011, KIND = -1000000012, INDEX = -1000000013, SIZE = -1000000014;

    private static final int MOST_MEN = 9, KINDS = 6, TOPICS = 8, MOST_FORCE = 99, MOST_NERVE = 99, MOST_WEIGHT = 99, MOST_FELLED = 9999, MOST_GO = 9999;
    private static final int MOST_TEXTS = 14, MOST_BYTES = 96, KEYS = 3, BEARS_KEY = 0, FEE_KEY = 1, FINE_KEY = 2;
    private static final int SHEETS = 4, SLOTS = 5, MOST_PLACES = 24, MOST_FLOAT = 99999, MOST_WAITING = 60;

    private static final int NOBODY = -1;
    private static final int[] LEFT_BEHIND = {1, 3, 4, NOBODY, 6, 7, NOBODY, 8, NOBODY};
    private static final int[] RIGHT_BEHIND = {2, 4, 5, 6, 7, NOBODY, 8, NOBODY, NOBODY};

    private final Alley now = new Alley();
    private final Alley image = new Alley();
    private final Alley thought = new Alley();
    private boolean kept = false;
    private final Search search = new Search();
    private final TextReader reader = new TextReader();
    private final Tape tape = reader.tape;
    private final Sheet[] sheets = new Sheet[SHEETS];
    private final Slot[] slots = new Slot[SLOTS];
    private final int[] waiting = new int[MOST_WAITING];
    private int waits = 0;
    private final int[] differences = new int[MOST_MEN];

    public SkittleMen() {
        for (int i = 0; i < SHEETS; i++) {
            sheets[i] = new Sheet();
        }
        for (int i = 0; i < SLOTS; i++) {
            slots[i] = new Slot();
        }
    }

    // ---- men

    public int man(int kind, int nerve, int weight, int sore) {
        if (!isWithin(kind, 0, KINDS - 1) || !isWithin(nerve, 0, MOST_NERVE)
                || !isWithin(weight, 0, MOST_WEIGHT) || !isWithin(sore, 0, TOPICS - 1)) {
            return BAD;
        }
        if (now.size >= MOST_MEN) {
            return FULL;
        }
        return now.take(kind, nerve, weight, sore);
    }

    public int told(int man, int what) {
        if (!now.has(man)) {
            return BAD;
        }
        Man one = now.men[man];
        switch (what) {
            case 0: return one.kind;
            case 1: return one.nerve;
            case 2: return one.weight;
            case 3: return one.sore;
            case 4: return one.felled;
            case 5: return one.down ? 1 : 0;
            case 6: return one.pushing();
            case 7: return one.worth();
            default: return BAD;
        }
    }

    public int bears(int man, int topic) {
        if (!now.has(man) || !isWithin(topic, 0, TOPICS - 1)) {
            return BAD;
        }
        return now.bearing(man, topic);
    }

    public int as(int man, int kind) {
        if (!now.has(man) || !isWithin(kind, 0, KINDS - 1)) {
            return BAD;
        }
        return now.men[man].isOf(kind) ? now.men[man].nerve : KIND;
    }

    public int turns(int man, int kind) {
        if (!now.has(man) || !isWithin(kind, 0, KINDS - 1)) {
            return BAD;
        }
        int was = now.men[man].kind;
        now.men[man].kind = kind;
        return was;
    }

    public int set(int man, int what, int v) {
        if (!now.has(man) || !isWithin(what, 1, 5) || !isWithin(v, 0, mostOf(what))) {
            return BAD;
        }
        int was = told(man, what);
        Man one = now.men[man];
        switch (what) {
            case 1: one.nerve = v; break;
            case 2: one.weight = v; break;
            case 3: one.sore = v; break;
            case 4: one.felled = v; break;
            default: one.down = v == 1; break;
        }
        return was;
    }

    private static int mostOf(int what) {
        switch (what) {
            case 1: return MOST_NERVE;
            case 2: return MOST_WEIGHT;
            case 3: return TOPICS - 1;
            case 4: return MOST_FELLED;
            default: return 1;
        }
    }

    public int says(int man, int topic, int force, int turn) {
        if (!now.has(man) || !isWithin(topic, 0, TOPICS - 1) || !isWithin(force, 0, MOST_FORCE) || !isWithin(turn, -1, 1)) {
            return BAD;
        }
        if (!now.stands(man)) {
            return NO;
        }
        int fellBefore = now.fell;
        now.hit(man, topic, force, turn, 0);
        return now.fell - fellBefore;
    }

    public int sets() {
        int down = now.size - now.standing();
        now.setUp();
        return down;
    }

    public int deal(int n) {
        if (!isWithin(n, 1, MOST_MEN)) {
            return BAD;
        }
        int come = Math.min(n, MOST_MEN - now.size);
        for (int i = 0; i < come; i++) {
            now.takeByLot();
        }
        return come;
    }

    public int seed(int v) {
        int was = now.z;
        now.z = v;
        return was;
    }

    // ---- goes

    public int goes(int n) {
        if (!isWithin(n, 1, 100)) {
            return BAD;
        }
        int fellBefore = now.fell;
        now.goOn(Math.min(n, MOST_GO - now.theGo));
        return now.fell - fellBefore;
    }

    public int alley(int what) {
        switch (what) {
            case 0: return now.fell;
            case 1: return now.setUps;
            case 2: return now.goesSince;
            case 3: return now.standingSet();
            case 4: return now.nerveOfAll();
            case 5: return now.mostFelled();
            default: return BAD;
        }
    }

    // ---- what will be

    public int best(int f, int what) {
        if (!isWithin(f, 0, MOST_FORCE) || !isWithin(what, 0, 3)) {
            return BAD;
        }
        if (now.standing() == 0) {
            return NONE;
        }
        search.lookAt(now, f);
        search.findBest();
        switch (what) {
            case 0: return search.bestFallen;
            case 1: return search.bestMan;
            case 2: return search.bestTopic;
            default: return search.bestTurn + 1;
        }
    }

    public int pair(int f) {
        if (!isWithin(f, 0, MOST_FORCE)) {
            return BAD;
        }
        search.lookAt(now, f);
        return search.mostByTwo();
    }

    public int clear(int f) {
        if (!isWithin(f, 0, MOST_FORCE)) {
            return BAD;
        }
        search.lookAt(now, f);
        return search.fewestForAll();
    }

    public int force(int man, int topic) {
        if (!now.has(man) || !isWithin(topic, 0, TOPICS - 1)) {
            return BAD;
        }
        if (!now.stands(man)) {
            return NO;
        }
        int least = now.bearing(man, topic) + 1;
        return least <= MOST_FORCE ? least : NONE;
    }

    public int behind(int n, int what) {
        if (!isWithin(n, 0, 100) || !isWithin(what, 0, 2 + now.size)) {
            return BAD;
        }
        thought.becomeAs(now);
        thought.goOn(n);
        switch (what) {
            case 0: return thought.fell;
            case 1: return thought.setUps;
            case 2: return thought.standing();
            default: return thought.men[what - 3].felled;
        }
    }

    public int falls(int man) {
        if (!now.has(man)) {
            return BAD;
        }
        thought.becomeAs(now);
        for (int n = 1; n <= 200; n++) {
            thought.goOnce();
            if (thought.men[man].felled > now.men[man].felled) {
                return n;
            }
        }
        return NONE;
    }

    public int becomes(int man, int n, int what) {
        if (!now.has(man) || !isWithin(n, 1, 60) || !isWithin(what, 0, 1)) {
            return BAD;
        }
        int bestKind = 0;
        int leastFelled = MOST_FELLED + 1;
        for (int kind = 0; kind < KINDS; kind++) {
            thought.becomeAs(now);
            thought.men[man].kind = kind;
            thought.goOn(n);
            int felled = thought.men[man].felled;
            if (felled < leastFelled) {
                leastFelled = felled;
                bestKind = kind;
            }
        }
        return what == 0 ? bestKind : leastFelled;
    }

    public int like(int sheet, int what) {
        if (!isSheet(sheet) || !isWithin(what, 0, 1)) {
            return BAD;
        }
        if (sheets[sheet].isMissing()) {
            return NOTHING;
        }
        if (now.size == 0) {
            return NONE;
        }
        addDifferences(sheets[sheet]);
        int closest = 0;
        for (int i = 1; i < now.size; i++) {
            if (differences[i] < differences[closest]) {
                closest = i;
            }
        }
        return what == 0 ? closest : differences[closest];
    }

    private void addDifferences(Sheet row) {
        Arrays.fill(differences, 0);
        thought.becomeAs(now);
        for (int k = 0; k < row.size; k++) {
            if (k > 0) {
                thought.goOnce();
            }
            if (row.isNumber(k)) {
                for (int i = 0; i < thought.size; i++) {
                    differences[i] += Math.abs(thought.men[i].nerve - row.places[k]);
                }
            }
        }
    }

    public int fee() {
        Text law = now.counted(FEE_KEY);
        return law == null ? now.fell : law.gives(now.fell, now.setUps, 0, 0);
    }

    public int fine(int man) {
        if (!now.has(man)) {
            return BAD;
        }
        Man one = now.men[man];
        Text law = now.counted(FINE_KEY);
        return law == null ? one.nerve : law.gives(one.nerve, one.weight, 0, 0);
    }

    // ---- texts

    public int feed(int a, int b, int c) {
        if (tape.size + 12 > MOST_BYTES) {
            return FULL;
        }
        tape.put(a);
        tape.put(b);
        tape.put(c);
        return tape.size;
    }

    public int trim(int n) {
        if (!isWithin(n, 0, tape.size)) {
            return BAD;
        }
        tape.size = n;
        return n;
    }

    public int text() {
        int fault = reader.faultFound();
        tape.size = 0;
        if (fault != TextReader.FAULTLESS) {
            return -100 - fault;
        }
        return now.textSize < MOST_TEXTS ? now.takeText(reader.made()) : FULL;
    }

    public int textTold(int text, int what) {
        if (!isWithin(text, 0, now.textSize - 1) || !isWithin(what, 0, 1)) {
            return BAD;
        }
        Text one = now.texts[text];
        if (one == null) {
            return BAD;
        }
        return what == 0 ? one.key : one.pieces;
    }

    public int why(int key) {
        return isWithin(key, 0, KEYS - 1) ? now.counting[key] : BAD;
    }

    // ---- sheets, slots

    public int sheet(int sheet, int sort, int n) {
        if (!isSheet(sheet) || !isWithin(sort, Sheet.MISSING, Sheet.FLOATS)) {
            return BAD;
        }
        if (sort == Sheet.MISSING) {
            sheets[sheet].becomeRow(Sheet.MISSING, 0);
            return 0;
        }
        if (n > MOST_PLACES) {
            return BAD;
        }
        if (n < 0) {
            return SIZE;
        }
        sheets[sheet].becomeRow(sort, n);
        return n;
    }

    public int mark(int sheet, int place, int v) {
        if (!isSheet(sheet)) {
            return BAD;
        }
        Sheet row = sheets[sheet];
        if (row.isMissing()) {
            return NOTHING;
        }
        if (!row.has(place)) {
            return INDEX;
        }
        if (row.sort == Sheet.SHORTS) {
            if (v == NONE) {
                return KIND;
            }
            row.places[place] = (short) v;
            return 1;
        }
        if (v != NONE && !isWithin(v, -MOST_FLOAT, MOST_FLOAT)) {
            return BAD;
        }
        row.places[place] = v;
        return 1;
    }

    public int pour(int sheet) {
        if (!isSheet(sheet)) {
            return BAD;
        }
        Sheet row = sheets[sheet];
        if (row.isMissing()) {
            return NOTHING;
        }
        int changed = 0;
        for (int i = 0; i < now.size && i < row.size; i++) {
            if (row.isNumber(i)) {
                int nerve = held(row.places[i], MOST_NERVE);
                if (nerve != now.men[i].nerve) {
                    changed++;
                }
                now.men[i].nerve = nerve;
            }
        }
        return changed;
    }

    public int reads(int sheet) {
        if (!isSheet(sheet)) {
            return BAD;
        }
        Sheet row = sheets[sheet];
        if (row.isMissing()) {
            return NOTHING;
        }
        for (int i = 0; i < row.size; i++) {
            if (row.isNumber(i) && (!now.has(i) || row.places[i] != now.men[i].weight)) {
                return i;
            }
        }
        return NONE;
    }

    public int copy(int from, int place, int to, int at, int many) {
        if (!isSheet(from) || !isSheet(to)) {
            return BAD;
        }
        Sheet source = sheets[from];
        Sheet target = sheets[to];
        if (source.isMissing() || target.isMissing()) {
            return NOTHING;
        }
        if (source.sort != target.sort) {
            return KIND;
        }
        if (!source.hasRun(place, many) || !target.hasRun(at, many)) {
            return INDEX;
        }
        System.arraycopy(source.places, place, target.places, at, many);
        return many;
    }

    public int lay(int slot, int thing, int k) {
        if (!isSlot(slot) || !isWithin(thing, Slot.EMPTY, Slot.NUMBER)
                || thing == Slot.MAN && !now.has(k) || thing == Slot.SHEET && !isSheet(k)) {
            return BAD;
        }
        if (thing == Slot.SHEET && sheets[k].isMissing()) {
            return NOTHING;
        }
        Slot hold = slots[slot];
        int was = hold.thing;
        hold.thing = thing;
        switch (thing) {
            case Slot.MAN: hold.man.becomeAs(now.men[k]); break;
            case Slot.SHEET: hold.row.becomeAs(sheets[k]); break;
            default: hold.number = k; break;
        }
        return was;
    }

    public int ask(int slot, int kind) {
        if (!isSlot(slot) || !isWithin(kind, 0, KINDS - 1)) {
            return BAD;
        }
        Slot hold = slots[slot];
        if (hold.thing == Slot.EMPTY) {
            return NOTHING;
        }
        if (hold.thing != Slot.MAN || !hold.man.isOf(kind)) {
            return KIND;
        }
        return hold.man.worth();
    }

    public int item(int slot, int place) {
        if (!isSlot(slot)) {
            return BAD;
        }
        Slot hold = slots[slot];
        if (hold.thing == Slot.EMPTY) {
            return NOTHING;
        }
        if (hold.thing != Slot.SHEET) {
            return KIND;
        }
        if (!hold.row.has(place)) {
            return INDEX;
        }
        return hold.row.isNumber(place) ? hold.row.places[place] : KIND;
    }

    public int rest(int slot, int n) {
        if (!isSlot(slot)) {
            return BAD;
        }
        Slot hold = slots[slot];
        if (hold.thing == Slot.EMPTY) {
            return NOTHING;
        }
        if (hold.thing != Slot.NUMBER) {
            return KIND;
        }
        return n == 0 ? NO : hold.number % n;
    }

    // ---- rows, images

    public int tell(int v) {
        if (waits >= MOST_WAITING) {
            return FULL;
        }
        waiting[waits] = v;
        waits++;
        return waits;
    }

    public int check(int n) {
        int many = waits;
        waits = 0;
        if (!isWithin(n, 1, 30)) {
            return BAD;
        }
        if (!kept) {
            return NO;
        }
        thought.becomeAs(image);
        int goesTold = Math.min(n, MOST_GO - image.theGo);
        int right = 0;
        for (int i = 0; i < goesTold; i++) {
            thought.goOnce();
            if (!isTold(right, many, thought.fell)) {
                return 1 + right;
            }
            right++;
            if (!isTold(right, many, thought.nerveOfAll())) {
                return 1 + right;
            }
            right++;
        }
        return many > right ? 1 + right : 0;
    }

    private boolean isTold(int place, int many, int due) {
        return place < many && place < MOST_WAITING && waiting[place] == due;
    }

    public int keep() {
        image.becomeAs(now);
        kept = true;
        return now.size;
    }

    public int back() {
        if (!kept) {
            return NO;
        }
        now.becomeAs(image);
        return now.size;
    }

    public int count(int what) {
        switch (what) {
            case 0: return now.size;
            case 1: return now.theGo;
            case 2: return now.standing();
            case 3: return now.textSize;
            case 4: return waits;
            case 5: return tape.size;
            case 6: return now.z;
            default: return BAD;
        }
    }

    private static boolean isWithin(int v, int least, int most) {
        return v >= least && v <= most;
    }

    private static boolean isSheet(int sheet) {
        return isWithin(sheet, 0, SHEETS - 1);
    }

    private static boolean isSlot(int slot) {
        return isWithin(slot, 0, SLOTS - 1);
    }

    private static int held(int v, int most) {
        return Math.max(0, Math.min(v, most));
    }

    /** One man, and what his kind makes of him. */
    private static final class Man {
        private static final int STOUT = 1, CHAPEL = 2, KING = 3, ELDER = 4, JIM = 5, NO_KIND = -1;
        private static final int[] KIND_ABOVE = {NO_KIND, 0, 0, STOUT, CHAPEL, 0};

        private int kind = 0;
        private int nerve = 0;
        private int weight = 0;
        private int sore = 0;
        private int felled = 0;
        private boolean down = false;

        private void becomeAs(Man other) {
            kind = other.kind;
            nerve = other.nerve;
            weight = other.weight;
            sore = other.sore;
            felled = other.felled;
            down = other.down;
        }

        private boolean isOf(int wanted) {
            int above = kind;
            for (int i = 0; i < KINDS && isWithin(above, 0, KINDS - 1); i++) {
                if (above == wanted) {
                    return true;
                }
                above = KIND_ABOVE[above];
            }
            return false;
        }

        private int bearing(int plain, int topic, int others) {
            int asMan = topic == sore ? Math.max(0, plain - 20) : plain;
            int asStout = asMan + weight / 10;
            int asChapel = topic == 0 ? 99 : asMan;
            switch (kind) {
                case STOUT: return asStout;
                case KING: return asStout + 5 * others;
                case CHAPEL: return asChapel;
                case ELDER: return Math.max(0, asChapel - 10);
                case JIM: return 99;
                default: return asMan;
            }
        }

        private int pushing() {
            switch (kind) {
                case STOUT: return weight + 15;
                case KING: return (weight + 15) / 2;
                case CHAPEL: return weight - 10;
                case ELDER: return 2 * (weight - 10);
                case JIM: return 0;
                default: return weight;
            }
        }

        private int worth() {
            switch (kind) {
                case STOUT: return felled + weight;
                case KING: return 5 * (felled + weight);
                case CHAPEL: return 99 - nerve;
                case ELDER: return (99 - nerve) / 2;
                case JIM: return 500;
                default: return felled;
            }
        }
    }

    /** All that an image keeps: the men, the goes, the lot and the texts. */
    private static final class Alley {
        private final Man[] men = new Man[MOST_MEN];
        private int size = 0;
        private int fell = 0;
        private int setUps = 0;
        private int goesSince = 0;
        private int theGo = 0;
        private int z = 1;
        private final Text[] texts = new Text[MOST_TEXTS];
        private int textSize = 0;
        private final int[] counting = new int[KEYS];

        private Alley() {
            for (int i = 0; i < MOST_MEN; i++) {
                men[i] = new Man();
            }
            Arrays.fill(counting, NONE);
        }

        private void becomeAs(Alley other) {
            for (int i = 0; i < other.size; i++) {
                men[i].becomeAs(other.men[i]);
            }
            size = other.size;
            fell = other.fell;
            setUps = other.setUps;
            goesSince = other.goesSince;
            theGo = other.theGo;
            z = other.z;
            for (int i = 0; i < other.textSize; i++) {
                texts[i] = other.texts[i];
            }
            textSize = other.textSize;
            System.arraycopy(other.counting, 0, counting, 0, KEYS);
        }

        private boolean has(int man) {
            return man >= 0 && man < size;
        }

        private boolean stands(int man) {
            return has(man) && !men[man].down;
        }

        private int standing() {
            return Integer.bitCount(standingSet());
        }

        private int standingSet() {
            int found = 0;
            for (int i = 0; i < size; i++) {
                if (!men[i].down) {
                    found |= 1 << i;
                }
            }
            return found;
        }

        private int nerveOfAll() {
            int sum = 0;
            for (int i = 0; i < size; i++) {
                sum += men[i].nerve;
            }
            return sum;
        }

        private int mostFelled() {
            if (size == 0) {
                return NONE;
            }
            int most = 0;
            for (int i = 1; i < size; i++) {
                if (men[i].felled > men[most].felled) {
                    most = i;
                }
            }
            return most;
        }

        private int draw() {
            z = z * 1103515245 + 12345;
            return z >>> 8;
        }

        private void takeByLot() {
            int kind = draw() % KINDS;
            int nerve = draw() % 100;
            int weight = draw() % 100;
            take(kind, nerve, weight, draw() % TOPICS);
        }

        private int take(int kind, int nerve, int weight, int sore) {
            if (size >= MOST_MEN) {
                return FULL;
            }
            // The men were made ahead, and one that was there before going back left its marks.
            Man one = men[size];
            one.kind = kind;
            one.nerve = nerve;
            one.weight = weight;
            one.sore = sore;
            one.felled = 0;
            one.down = false;
            size++;
            return size - 1;
        }

        private int takeText(Text text) {
            if (textSize >= MOST_TEXTS || !isWithin(text.key, 0, KEYS - 1)) {
                return FULL;
            }
            texts[textSize] = text;
            counting[text.key] = textSize;
            textSize++;
            return textSize - 1;
        }

        private Text counted(int key) {
            int number = counting[key];
            return isWithin(number, 0, textSize - 1) ? texts[number] : null;
        }

        private int plainBearing(int man, int standing) {
            Man one = men[man];
            Text law = counted(BEARS_KEY);
            return law == null ? one.nerve : held(law.gives(one.nerve, one.weight, one.felled, standing), 99);
        }

        private int bearing(int man, int topic) {
            int standing = standing();
            int others = men[man].down ? standing : standing - 1;
            return men[man].bearing(plainBearing(man, standing), topic, others);
        }

        /** What is said to one, or another one's push: if it is more than the one bears, it falls, with all that it takes. */
        private void hit(int man, int topic, int push, int turn, int depth) {
            if (depth > MOST_MEN || !stands(man) || bearing(man, topic) >= push) {
                return;
            }
            Man one = men[man];
            one.down = true;
            one.felled = Math.min(one.felled + 1, MOST_FELLED);
            fell++;
            if (turn != 1) {
                hit(LEFT_BEHIND[man], topic, one.pushing(), turn, depth + 1);
            }
            if (turn != -1) {
                hit(RIGHT_BEHIND[man], topic, one.pushing(), turn, depth + 1);
            }
        }

        private void setUp() {
            for (int i = 0; i < size; i++) {
                men[i].down = false;
            }
            goesSince = 0;
            setUps++;
        }

        private void goOn(int n) {
            for (int i = 0; i < n; i++) {
                goOnce();
            }
        }

        private void goOnce() {
            if (goesSince == 3 || standing() == 0) {
                setUp();
            }
            int topic = draw() % TOPICS;
            int force = draw() % 100;
            int turn = draw() % 3 - 1;
            int from = draw();
            if (size > 0) {
                hit(firstStandingFrom(from % size), topic, force, turn, 0);
            }
            moveNerves();
            goesSince++;
            theGo++;
        }

        private int firstStandingFrom(int man) {
            for (int i = 0; i < size; i++) {
                int at = (man + i) % size;
                if (stands(at)) {
                    return at;
                }
            }
            return NOBODY;
        }

        private void moveNerves() {
            for (int i = 0; i < size; i++) {
                Man one = men[i];
                one.nerve = held(one.down ? one.nerve - 1 : one.nerve + 1, MOST_NERVE);
            }
        }
    }

    /**
     * What sayings of one force would do. While men only fall, what a standing one bears hangs on how many stand
     * alone, so a set of those that stand is all of the state, and what they bear is worked out once.
     */
    private static final class Search {
        private static final int SETS = 512, COUNTS = MOST_MEN + 1, NOT_SEEN = -1;

        private final int[] bearings = new int[MOST_MEN * TOPICS * COUNTS];
        private final int[] pushings = new int[MOST_MEN];
        private final int[] steps = new int[SETS];
        private final int[] queue = new int[SETS];
        private int queued = 0;
        private int start = 0;
        private int force = 0;
        private int bestFallen = 0;
        private int bestMan = 0;
        private int bestTopic = 0;
        private int bestTurn = 0;

        private void lookAt(Alley alley, int f) {
            force = f;
            start = alley.standingSet();
            int most = Integer.bitCount(start);
            for (int man = 0; man < MOST_MEN; man++) {
                if (alley.stands(man)) {
                    pushings[man] = alley.men[man].pushing();
                    for (int standing = 1; standing <= most; standing++) {
                        writeBearings(alley, man, standing);
                    }
                }
            }
        }

        private void writeBearings(Alley alley, int man, int standing) {
            int plain = alley.plainBearing(man, standing);
            for (int topic = 0; topic < TOPICS; topic++) {
                bearings[bearingPlace(man, topic, standing)] = alley.men[man].bearing(plain, topic, standing - 1);
            }
        }

        private static int bearingPlace(int man, int topic, int standing) {
            return (man * TOPICS + topic) * COUNTS + standing;
        }

        private static boolean isIn(int man, int those) {
            return man >= 0 && (those >> man & 1) != 0;
        }

        private boolean fallsBy(int push, int man, int topic, int those) {
            return isIn(man, those) && bearings[bearingPlace(man, topic, Integer.bitCount(those))] < push;
        }

        /** Who of those stands yet when one has fallen with all that it takes. */
        private int leftBehind(int those, int man, int topic, int turn, int depth) {
            int left = those & ~(1 << man);
            if (depth >= MOST_MEN) {
                return left;
            }
            int next = LEFT_BEHIND[man];
            if (turn != 1 && fallsBy(pushings[man], next, topic, left)) {
                left = leftBehind(left, next, topic, turn, depth + 1);
            }
            next = RIGHT_BEHIND[man];
            if (turn != -1 && fallsBy(pushings[man], next, topic, left)) {
                left = leftBehind(left, next, topic, turn, depth + 1);
            }
            return left;
        }

        private void findBest() {
            bestFallen = -1;
            for (int man = 0; man < MOST_MEN; man++) {
                for (int topic = 0; topic < TOPICS && isIn(man, start); topic++) {
                    boolean falls = fallsBy(force, man, topic, start);
                    for (int turn = -1; turn <= 1; turn++) {
                        int left = falls ? leftBehind(start, man, topic, turn, 0) : start;
                        offer(Integer.bitCount(start) - Integer.bitCount(left), man, topic, turn);
                    }
                }
            }
        }

        private void offer(int fallen, int man, int topic, int turn) {
            if (fallen > bestFallen) {
                bestFallen = fallen;
                bestMan = man;
                bestTopic = topic;
                bestTurn = turn;
            }
        }

        private int mostByTwo() {
            startQueue();
            queueAllBehind(start);
            int behindOne = queued;
            for (int i = 1; i < behindOne && i < SETS; i++) {
                queueAllBehind(queue[i]);
            }
            int fewest = MOST_MEN;
            for (int i = 0; i < queued; i++) {
                fewest = Math.min(fewest, Integer.bitCount(queue[i]));
            }
            return Integer.bitCount(start) - fewest;
        }

        private int fewestForAll() {
            startQueue();
            for (int i = 0; i < queued && i < SETS && steps[0] == NOT_SEEN; i++) {
                queueAllBehind(queue[i]);
            }
            return steps[0] == NOT_SEEN ? NONE : steps[0];
        }

        private void startQueue() {
            Arrays.fill(steps, NOT_SEEN);
            steps[start] = 0;
            queue[0] = start;
            queued = 1;
        }

        private void queueAllBehind(int those) {
            for (int man = 0; man < MOST_MEN; man++) {
                for (int topic = 0; topic < TOPICS && isIn(man, those); topic++) {
                    if (fallsBy(force, man, topic, those)) {
                        for (int turn = -1; turn <= 1; turn++) {
                            enqueue(leftBehind(those, man, topic, turn, 0), steps[those] + 1);
                        }
                    }
                }
            }
        }

        private void enqueue(int those, int step) {
            if (steps[those] == NOT_SEEN && queued < SETS) {
                steps[those] = step;
                queue[queued] = those;
                queued++;
            }
        }
    }

    /** Bytes that wait to be read as a text. */
    private static final class Tape {
        private final byte[] bytes = new byte[MOST_BYTES];
        private int size = 0;

        private void put(int four) {
            for (int shift = 24; shift >= 0 && size < MOST_BYTES; shift -= 8) {
                bytes[size] = (byte) (four >> shift);
                size++;
            }
        }
    }

    /** A law that was read; its code has the signs behind what they join, so that one pass with a stack works it out. */
    private static final class Text {
        private static final int FIRST_NAME = 10000;

        private final int key;
        private final int pieces;
        private final int[] code;
        private final int[] stack;

        private Text(int itsKey, int itsPieces, int[] itsCode) {
            key = itsKey;
            pieces = itsPieces;
            code = itsCode;
            stack = new int[Math.max(1, itsPieces)];
        }

        /** What it gives, with its names standing for these in their order. */
        private int gives(int first, int second, int third, int fourth) {
            int top = 0;
            for (int i = 0; i < code.length; i++) {
                int sign = code[i];
                if (sign >= 0 && top < stack.length) {
                    stack[top] = sign < FIRST_NAME ? sign : chosen(sign - FIRST_NAME, first, second, third, fourth);
                    top++;
                } else if (sign == -'!' && top >= 1) {
                    stack[top - 1] = stack[top - 1] == 0 ? 1 : 0;
                } else if (top >= 2) {
                    top--;
                    stack[top - 1] = joined(-sign, stack[top - 1], stack[top]);
                }
            }
            return stack[0];
        }

        private static int chosen(int name, int first, int second, int third, int fourth) {
            switch (name) {
                case 0: return first;
                case 1: return second;
                case 2: return third;
                default: return fourth;
            }
        }

        private static int joined(int sign, int a, int b) {
            switch (sign) {
                case '+': return a + b;
                case '-': return a - b;
                case '*': return a * b;
                case '/': return b == 0 ? 0 : a / b;
                case '<': return a < b ? 1 : 0;
                case '=': return a == b ? 1 : 0;
                case '>': return a > b ? 1 : 0;
                case '&': return a != 0 && b != 0 ? 1 : 0;
                default: return a != 0 || b != 0 ? 1 : 0;
            }
        }
    }

    /** Reads its tape word by word; signs that wait for their right side stand on a stack. */
    private static final class TextReader {
        private static final int FAULTLESS = -1, END = 0, LETTERS = 1, DIGITS = 2, SIGN = 3;
        private static final int MOST_DIGITS = 4, MOST_OPEN = 8, NOT_JOINING = 0, COMPARING = 3;

        private final Tape tape = new Tape();
        private int sort = END;
        private int start = 0;
        private int end = 0;
        private boolean glued = false;
        private boolean wantsPiece = true;
        private int key = 0;
        private int pieces = 0;
        private int parens = 0;
        private int bangs = 0;
        private final int[] signs = new int[MOST_BYTES];
        private int signSize = 0;
        private final int[] code = new int[MOST_BYTES];
        private int codeSize = 0;

        /** The place of the tape's fault, or FAULTLESS. */
        private int faultFound() {
            startAgain();
            nextWord();
            key = keyRead();
            if (key >= KEYS) {
                return start;
            }
            // Each round uses up a byte at least, or meets the end.
            for (int i = 0; i <= MOST_BYTES; i++) {
                nextWord();
                if (sort == END) {
                    return wantsPiece || parens > 0 ? start : FAULTLESS;
                }
                if (glued || !(wantsPiece ? takesPiece() : takesJoining())) {
                    return start;
                }
            }
            return start;
        }

        private void startAgain() {
            sort = END;
            start = 0;
            end = 0;
            wantsPiece = true;
            pieces = 0;
            parens = 0;
            bangs = 0;
            signSize = 0;
            codeSize = 0;
        }

        /** The text of the tape that was found without fault. */
        private Text made() {
            popSignsFrom(1);
            return new Text(key, pieces, Arrays.copyOf(code, codeSize));
        }

        private void nextWord() {
            boolean wasWord = isWord();
            int lastEnd = end;
            start = end;
            while (start < tape.size && byteAt(start) == ' ') {
                start++;
            }
            sort = sortAt(start);
            end = start < tape.size ? start + 1 : start;
            while (isWord() && end < tape.size && sortAt(end) == sort) {
                end++;
            }
            glued = wasWord && isWord() && start == lastEnd;
        }

        private boolean isWord() {
            return sort == LETTERS || sort == DIGITS;
        }

        private int byteAt(int place) {
            return isWithin(place, 0, MOST_BYTES - 1) ? tape.bytes[place] : 0;
        }

        private int sortAt(int place) {
            if (place >= tape.size) {
                return END;
            }
            int sign = byteAt(place);
            if (isWithin(sign, 'a', 'z')) {
                return LETTERS;
            }
            return isWithin(sign, '0', '9') ? DIGITS : SIGN;
        }

        private int keyRead() {
            for (int i = 0; i < KEYS; i++) {
                if (isRead(wordOf(i))) {
                    return i;
                }
            }
            return KEYS;
        }

        private static String wordOf(int key) {
            switch (key) {
                case BEARS_KEY: return "bears";
                case FEE_KEY: return "fee";
                default: return "fine";
            }
        }

        private static String namesOf(int key) {
            switch (key) {
                case BEARS_KEY: return "nwfs";
                case FEE_KEY: return "fs";
                default: return "nw";
            }
        }

        private boolean isRead(String word) {
            if (sort != LETTERS || end - start != word.length()) {
                return false;
            }
            for (int i = 0; i < word.length(); i++) {
                if (byteAt(start + i) != word.charAt(i)) {
                    return false;
                }
            }
            return true;
        }

        private boolean takesPiece() {
            if (sort == DIGITS) {
                return end - start <= MOST_DIGITS && takesValue(numberRead());
            }
            if (sort == LETTERS) {
                int name = end - start == 1 ? namesOf(key).indexOf((char) byteAt(start)) : -1;
                return name >= 0 && takesValue(Text.FIRST_NAME + name);
            }
            if (byteAt(start) == '(' && parens < MOST_OPEN) {
                parens++;
                return pushes('(');
            }
            if (byteAt(start) == '!' && bangs < MOST_OPEN) {
                bangs++;
                return pushes('!');
            }
            return false;
        }

        private int numberRead() {
            int number = 0;
            for (int i = start; i < end; i++) {
                number = number * 10 + byteAt(i) - '0';
            }
            return number;
        }

        private boolean takesValue(int value) {
            pieces++;
            emit(value);
            endPiece();
            return true;
        }

        /** A piece has ended, and with it each ! right ahead of it. */
        private void endPiece() {
            wantsPiece = false;
            for (int i = signSize; i > 0 && signs[i - 1] == '!'; i--) {
                popSign();
                bangs--;
            }
        }

        private boolean takesJoining() {
            int sign = byteAt(start);
            if (sign == ')' && parens > 0) {
                closeParen();
                return true;
            }
            int tightness = sort == SIGN ? tightnessOf(sign) : NOT_JOINING;
            if (tightness == NOT_JOINING) {
                return false;
            }
            popSignsFrom(tightness == COMPARING ? COMPARING + 1 : tightness);
            if (tightness == COMPARING && signSize > 0 && tightnessOf(signs[signSize - 1]) == COMPARING) {
                return false;
            }
            wantsPiece = true;
            return pushes(sign);
        }

        private void closeParen() {
            popSignsFrom(1);
            if (signSize > 0) {
                signSize--;
            }
            parens--;
            endPiece();
        }

        private static int tightnessOf(int sign) {
            switch (sign) {
                case '|': return 1;
                case '&': return 2;
                case '<': case '=': case '>': return COMPARING;
                case '+': case '-': return 4;
                case '*': case '/': return 5;
                default: return NOT_JOINING;
            }
        }

        private boolean pushes(int sign) {
            if (signSize >= MOST_BYTES) {
                return false;
            }
            signs[signSize] = sign;
            signSize++;
            return true;
        }

        /** Signs at least so tight are worked out ahead of what comes; an open ( stops them. */
        private void popSignsFrom(int tightness) {
            for (int i = signSize; i > 0 && tightnessOf(signs[i - 1]) >= tightness; i--) {
                popSign();
            }
        }

        private void popSign() {
            if (signSize > 0) {
                signSize--;
                emit(-signs[signSize]);
            }
        }

        private void emit(int sign) {
            if (codeSize < MOST_BYTES) {
                code[codeSize] = sign;
                codeSize++;
            }
        }
    }

    /** A row of places; one that is no number has NONE, which is no number of either sort. */
    private static final class Sheet {
        private static final int MISSING = -1, SHORTS = 0, FLOATS = 1;

        private int sort = MISSING;
        private int size = 0;
        private final int[] places = new int[MOST_PLACES];

        private void becomeRow(int itsSort, int itsSize) {
            sort = itsSort;
            size = itsSize;
            Arrays.fill(places, 0);
        }

        private void becomeAs(Sheet other) {
            sort = other.sort;
            size = other.size;
            System.arraycopy(other.places, 0, places, 0, MOST_PLACES);
        }

        private boolean isMissing() {
            return sort == MISSING;
        }

        private boolean has(int place) {
            return place >= 0 && place < size;
        }

        private boolean hasRun(int place, int many) {
            return place >= 0 && many >= 0 && many <= size - place;
        }

        private boolean isNumber(int place) {
            return has(place) && places[place] != NONE;
        }
    }

    /** Holds one thing; room for each is made once and used again. */
    private static final class Slot {
        private static final int EMPTY = 0, MAN = 1, SHEET = 2, NUMBER = 3;

        private int thing = EMPTY;
        private final Man man = new Man();
        private final Sheet row = new Sheet();
        private int number = 0;
    }
}
