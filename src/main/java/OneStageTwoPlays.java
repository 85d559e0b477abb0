import java.util.NoSuchElementException;

/**
 * Two companies have hired one stage for one night, and their scenes go by turns.
 * What each call does is told, promise by promise, in the project's document.
 */
public final class OneStageTwoPlays {
    public static final int NONE = -1;

    private static final int NOT_NOW = -2;
    private static final int LATER_PLAYED = -3;
    private static final int NEGATIVE_SHEET = -2;
    private static final int MISSING_SHEET = -3;
    private static final int NO_SUCH_COUNT = -100;
    private static final int FAULTY_LAW = -10000;

    private static final int MOST_SCENES = 12;
    private static final int PERSON_COUNT = 6;
    private static final int PERSON_SETS = 64;
    private static final int ALL_PROPS = 15;
    private static final int MOST_SIGNS = 80;
    private static final int SCENE_SIGNS = 76;
    private static final int RULE_SIGNS = 40;
    private static final int ACT_SIGNS = 60;
    private static final int MOST_UNDONE = 12;
    private static final int SHELVES = 2;
    private static final int LONGEST_PAUSE = 99;
    private static final int LONGEST_CHANGE = 99;
    private static final int LATEST_HOUR = 199;
    private static final int MOST_DRAWS = 60;
    private static final int MOST_COINS = 20;
    private static final int MOST_LAMPS = 40;
    private static final int TENTHS = 10;

    private static final int PLAY = 0;
    private static final int MINUTES = 1;
    private static final int PERSONS = 2;
    private static final int PROPS = 3;
    private static final int TOLD = 4;
    private static final int NEEDED = 5;
    private static final int CHEER = 6;
    private static final int SCENE_FIELDS = 7;

    private final char[] text;
    private int textSize;
    private final long[] numbers;
    private int numbersSize;
    private final Script script;
    private final Night night;
    private final Past past;
    private final Changes changes;
    private final Changes otherChanges;
    private final LineReader lineReader;
    private final RuleReader ruleReader;
    private final ActReader actReader;
    private final Loom loom;
    private final Story story;
    private final Company company;
    private int seen;
    private int bowed;

    public OneStageTwoPlays() {
        text = new char[MOST_SIGNS];
        numbers = new long[MOST_SCENES];
        script = new Script();
        night = new Night();
        past = new Past();
        changes = new Changes();
        otherChanges = new Changes();
        lineReader = new LineReader(script);
        ruleReader = new RuleReader();
        actReader = new ActReader();
        loom = new Loom(script);
        story = new Story(script, night);
        company = new Company(script);
    }

    // ---- scenes

    public int sign(int v) {
        if (textSize + 4 > MOST_SIGNS) {
            return NONE;
        }
        for (int shift = 24; shift >= 0; shift -= 8) {
            addSign((v >>> shift) & 255);
        }
        return textSize;
    }

    public boolean end(int n) {
        if (n < 0 || n > textSize) {
            return false;
        }
        textSize = n;
        return true;
    }

    public int scenes() {
        int size = takeText();
        if (size == 0) {
            return 0;
        }
        int fault = lineReader.faultIn(text, size, SCENE_SIGNS);
        if (fault != NONE) {
            return -1 - fault;
        }
        int lines = lineReader.lineCount();
        night.coming |= script.grow(lines);
        changes.growStale();
        past.forgetUndone();
        past.clearShelves();
        return lines;
    }

    public int rule() {
        int size = takeText();
        if (size == 0) {
            changes.takePlain();
            return 0;
        }
        int fault = ruleReader.faultIn(text, size, RULE_SIGNS);
        if (fault != NONE) {
            return -1 - fault;
        }
        changes.takeFrom(ruleReader);
        return 0;
    }

    public int scene(int scene, int what) throws NoSuchElementException {
        if (!script.has(scene) || what < 0 || what > SCENE_FIELDS) {
            throw new NoSuchElementException();
        }
        if (what == SCENE_FIELDS) {
            return night.stateOf(scene);
        }
        return script.of(scene, what);
    }

    public int play(int play, int what) throws NoSuchElementException {
        if (!isPlay(play)) {
            throw new NoSuchElementException();
        }
        int own = script.scenesOf(play);
        switch (what) {
            case 0: return night.coming & own;
            case 1: return night.played & own;
            case 2: return night.dropped & own;
            case 3: return night.knownIn(play);
            case 4: return night.cheersIn(play);
            case 5: return nextOf(play);
            case 6: return script.sumOf(night.coming & own, MINUTES);
            default: throw new NoSuchElementException();
        }
    }

    public int sheet(int kind, int n, int f, int step) {
        if (kind < 0 || kind > 3 || n > MOST_SCENES) {
            return NONE;
        }
        if (kind == 3) {
            setMinutes(2, 0, 1, 0);
            return MISSING_SHEET;
        }
        if (n < 0) {
            return NEGATIVE_SHEET;
        }
        return setMinutes(kind, n, f, step);
    }

    // ---- the night

    public int plays(int play) {
        if (!isPlay(play)) {
            return NONE;
        }
        int next = nextOf(play);
        if (next == NONE) {
            return NOT_NOW;
        }
        changes.refresh(script);
        past.push(night);
        int change = changes.between(night.last, next);
        int brought = night.perform(script, next, change);
        tell(next, change, brought);
        return night.now;
    }

    public int cut(int scene) {
        int refusal = refusalToDrop(scene);
        if (refusal != 0) {
            return refusal;
        }
        past.push(night);
        night.drop(scene);
        return comingBeside(scene);
    }

    public int puts(int scene) {
        if (!script.has(scene)) {
            return NONE;
        }
        int bit = 1 << scene;
        if ((night.dropped & bit) == 0) {
            return NOT_NOW;
        }
        int own = script.scenesOf(script.of(scene, PLAY));
        // the bits at and above this one: those of later scenes, as it was not played itself
        if ((night.played & own & -bit) != 0) {
            return LATER_PLAYED;
        }
        past.push(night);
        night.takeBack(scene);
        return comingBeside(scene);
    }

    public int pause(int n) {
        if (n < 0 || n > LONGEST_PAUSE) {
            return NONE;
        }
        if (n > 0) {
            past.push(night);
            night.now += n;
        }
        return night.now;
    }

    public int evening() {
        int size = takeText();
        if (size > 0) {
            int fault = actReader.faultIn(text, size, ACT_SIGNS);
            if (fault != NONE) {
                return -1 - fault;
            }
        }
        changes.refresh(script);
        past.hold(night);
        int place = 0;
        int done = 0;
        boolean stuck = false;
        for (int k = 0; k < size && place < size && !stuck; k++) {
            int sign = signAt(place);
            if (act(sign, signAt(place + 1))) {
                done++;
                place += sign == 'x' || sign == 'w' ? 2 : 1;
            } else {
                stuck = true;
            }
        }
        if (done > 0) {
            past.pushHeld();
        }
        tell(stuck ? 1 : 0, night.now);
        return done;
    }

    public int undo() {
        return past.popInto(night);
    }

    // ---- weaves

    public int change(int one, int other) {
        if (!script.has(one) || !script.has(other)) {
            return NONE;
        }
        changes.refresh(script);
        tell(script.of(one, PERSONS) & script.of(other, PERSONS),
                script.of(one, PROPS) ^ script.of(other, PROPS));
        return changes.between(one, other);
    }

    public int weave() {
        readyLoom(changes);
        int minutes = loom.shortest();
        loom.findShortestTurns();
        tellTurns();
        return minutes;
    }

    public int soonest(int play) {
        if (!isPlay(play)) {
            return NONE;
        }
        readyLoom(changes);
        int own = loom.sizeOf(play);
        if (own == 0) {
            tell(0);
            return 0;
        }
        loom.fillForth();
        int minutes = loom.soonestWith(play, own);
        tell(loom.fewestOthers(play, own, minutes));
        return minutes;
    }

    public int both(int x, int y) {
        if (!isHour(x) || !isHour(y)) {
            return NONE;
        }
        readyLoom(changes);
        boolean can = loom.findTurnsBy(x, y);
        tellTurns();
        return can ? 1 : 0;
    }

    public int within(int n) {
        if (!isHour(n)) {
            return NONE;
        }
        readyLoom(changes);
        loom.fillForth();
        int most = 0;
        int minutes = 0;
        for (int k = 1; k <= loom.sizeOf(0) + loom.sizeOf(1); k++) {
            int needed = loom.soonestOf(k);
            if (needed <= n) {
                most = k;
                minutes = needed;
            }
        }
        tell(minutes);
        return most;
    }

    public int weaves() {
        readyLoom(changes);
        tell(loom.longest());
        return loom.ways();
    }

    public int turn(int play) {
        if (!isPlay(play)) {
            return NONE;
        }
        readyLoom(changes);
        if (loom.sizeOf(play) == 0) {
            return NOT_NOW;
        }
        int least = loom.shortest();
        int minutes = loom.shortestFrom(play);
        tell(minutes);
        return minutes - least;
    }

    public int over(int scene) {
        if (!script.has(scene)) {
            return NONE;
        }
        if ((night.coming & (1 << scene)) == 0) {
            return NOT_NOW;
        }
        readyLoom(changes);
        loom.fillForth();
        int play = script.of(scene, PLAY);
        int own = Integer.bitCount(night.coming & script.scenesOf(play) & ((1 << scene) - 1));
        int minutes = loom.soonestWith(play, own + 1);
        tell(own + loom.fewestOthers(play, own + 1, minutes));
        return minutes;
    }

    // ---- cuts, stories

    public int cuts(int n) {
        if (!isHour(n)) {
            return NONE;
        }
        readyLoom(changes);
        int lost = loom.findCut(night.coming, n);
        tell(loom.cutSet, loom.cutMinutes);
        return lost;
    }

    public int clash() {
        int clashing = story.clashing(night.coming);
        tell(Integer.bitCount(clashing), story.lostIn(clashing));
        return clashing;
    }

    public int mend() {
        int clashing = story.clashing(night.coming);
        int first = story.factsNeeded(clashing & script.scenesOf(0));
        int second = story.factsNeeded(clashing & script.scenesOf(1));
        tell(first, second);
        return Integer.bitCount(first) + Integer.bitCount(second);
    }

    public int spare() {
        int spared = story.sparable();
        tell(Integer.bitCount(spared));
        return spared;
    }

    public int cheers(int play) {
        if (!isPlay(play)) {
            return NONE;
        }
        int brought = story.broughtInOrder(play);
        tell(story.mostBrought(play));
        return brought;
    }

    // ---- persons, props

    public int who(int person) {
        if (!isPerson(person)) {
            return NONE;
        }
        int found = company.scenesWith(1 << person);
        tell(Integer.bitCount(found & script.scenesOf(0)), Integer.bitCount(found & script.scenesOf(1)));
        return found;
    }

    public int kings() {
        int shared = script.unionOf(night.coming & script.scenesOf(0), PERSONS)
                & script.unionOf(night.coming & script.scenesOf(1), PERSONS);
        int theirs = night.coming & company.scenesWith(shared);
        tell(Integer.bitCount(shared), script.sumOf(theirs, MINUTES));
        return shared;
    }

    public int stand() {
        tell(ALL_PROPS & ~script.unionOf(night.coming, PROPS));
        return company.propsInAll(night.coming);
    }

    public int guard() {
        int asked = company.fewestAsked(night.coming);
        tell(asked);
        return Integer.bitCount(asked);
    }

    public int chance(int play, int p) {
        if (!isPlay(play) || p < 0 || p > TENTHS) {
            return NONE;
        }
        int needed = script.unionOf(night.coming & script.scenesOf(play), PERSONS);
        long upper = 1;
        long lower = 1;
        for (int k = 0; k < Integer.bitCount(needed); k++) {
            upper *= TENTHS - p;
            lower *= TENTHS;
        }
        tellFraction(upper, lower);
        return 0;
    }

    public int likely(int p) {
        if (p < 0 || p > TENTHS) {
            return NONE;
        }
        company.weighCounts(night.coming, p);
        int best = company.heaviestCount();
        tellFraction(company.weightOf(best), company.weightOfAll());
        return best;
    }

    // ---- shares

    public int rests(int v) {
        if (v < 0 || v > MOST_COINS) {
            return NONE;
        }
        int pairs = 0;
        for (int one = 0; one <= v; one++) {
            for (int other = 0; other <= v; other++) {
                if (company.atRest(v, one, other)) {
                    pairs++;
                    if (pairs == 1) {
                        tell(one, other);
                    }
                }
            }
        }
        return pairs;
    }

    public int lamps(int n) {
        if (n < 1 || n > MOST_LAMPS) {
            return NONE;
        }
        company.fillLeads(n);
        tell(company.firstTake(n));
        return 100 + company.leadWith(n);
    }

    // ---- whose it was

    public int bow(int person, int is) {
        if (!isPerson(person) || is < 0 || is > 1) {
            return NONE;
        }
        int bit = 1 << person;
        seen |= bit;
        bowed = is == 1 ? bowed | bit : bowed & ~bit;
        return Integer.bitCount(seen);
    }

    public int forget() {
        int had = Integer.bitCount(seen);
        seen = 0;
        bowed = 0;
        return had;
    }

    public int fits() {
        int fitting = company.fitting(seen, bowed);
        tell(Integer.bitCount(fitting), Integer.bitCount(fitting & script.scenesOf(0)));
        return fitting;
    }

    public int ask() {
        int fitting = company.fitting(seen, bowed);
        if (fitting == 0) {
            return NOT_NOW;
        }
        int best = 0;
        int fewest = company.mostLeft(fitting, 0);
        for (int person = 1; person < PERSON_COUNT; person++) {
            int left = company.mostLeft(fitting, person);
            if (left < fewest) {
                best = person;
                fewest = left;
            }
        }
        tell(fewest);
        return best;
    }

    // ---- rules, evenings

    public int law() {
        int size = takeText();
        if (size == 0) {
            otherChanges.takePlain();
        } else {
            int fault = ruleReader.faultIn(text, size, RULE_SIGNS);
            if (fault != NONE) {
                return FAULTY_LAW - fault;
            }
            otherChanges.takeFrom(ruleReader);
        }
        readyLoom(otherChanges);
        int byOther = loom.shortest();
        readyLoom(changes);
        int byRule = loom.shortest();
        tell(byOther, byRule);
        return byOther - byRule;
    }

    public int years(int seed, int n) {
        if (n < 1 || n > MOST_DRAWS) {
            return NONE;
        }
        changes.refresh(script);
        // a question: the evening is drawn on the night itself, which then is put back as it was
        past.hold(night);
        int drawn = seed;
        int performed = 0;
        for (int k = 0; k < n; k++) {
            drawn = drawn * 1103515245 + 12345;
            int kind = (drawn >>> 16) % 4;
            if (kind == 3) {
                night.now++;
            } else if (performNext(kind == 2 ? playNotLast() : kind)) {
                performed++;
            }
        }
        int then = night.now;
        tell(performed, night.cheersIn(0) + night.cheersIn(1));
        past.putHeldInto(night);
        return then;
    }

    // ---- kept

    public boolean keep(int i) {
        if (i < 0 || i >= SHELVES) {
            return false;
        }
        past.shelve(i, night);
        return true;
    }

    public boolean again(int i) {
        if (!past.isShelved(i)) {
            return false;
        }
        past.unshelve(i, night);
        past.forgetUndone();
        return true;
    }

    public int count(int what) {
        switch (what) {
            case 0: return script.size;
            case 1: return night.now;
            case 2: return night.last;
            case 3: return night.coming;
            case 4: return night.played;
            case 5: return night.dropped;
            case 6: return night.cheersIn(0) + night.cheersIn(1);
            case 7: return seen;
            case 8: return past.size;
            case 9: return numbersSize;
            case 10: return textSize;
            default: return NO_SUCH_COUNT;
        }
    }

    public long row(int i) throws NoSuchElementException {
        if (i < 0 || i >= numbersSize || i >= numbers.length) {
            throw new NoSuchElementException();
        }
        return numbers[i];
    }

    // ---- what the calls share

    private static boolean isPlay(int play) {
        return play == 0 || play == 1;
    }

    private static boolean isPerson(int person) {
        return person >= 0 && person < PERSON_COUNT;
    }

    private static boolean isHour(int minutes) {
        return minutes >= 0 && minutes <= LATEST_HOUR;
    }

    private void addSign(int sign) {
        if (textSize >= 0 && textSize < text.length) {
            text[textSize] = (char) sign;
            textSize++;
        }
    }

    /** Empties THE TEXT; its signs stay where they are till the next sign comes. */
    private int takeText() {
        int size = textSize;
        textSize = 0;
        return size;
    }

    private int signAt(int place) {
        return place >= 0 && place < text.length ? text[place] : 0;
    }

    private void tell(long first) {
        numbersSize = 0;
        addNumber(first);
    }

    private void tell(long first, long second) {
        tell(first);
        addNumber(second);
    }

    private void tell(long first, long second, long third) {
        tell(first, second);
        addNumber(third);
    }

    private void addNumber(long number) {
        if (numbersSize >= 0 && numbersSize < numbers.length) {
            numbers[numbersSize] = number;
            numbersSize++;
        }
    }

    private void tellTurns() {
        numbersSize = 0;
        for (int k = 0; k < loom.turnsSize; k++) {
            addNumber(loom.turnAt(k));
        }
    }

    private void tellFraction(long upper, long lower) {
        long a = upper;
        long b = lower;
        for (int k = 0; k < 100 && b != 0; k++) {
            long rest = a % b;
            a = b;
            b = rest;
        }
        if (a == 0) {
            tell(upper, lower);
        } else {
            tell(upper / a, lower / a);
        }
    }

    private int nextOf(int play) {
        int waiting = night.coming & script.scenesOf(play);
        return waiting == 0 ? NONE : Integer.numberOfTrailingZeros(waiting);
    }

    private int playNotLast() {
        return script.has(night.last) ? 1 - script.of(night.last, PLAY) : 0;
    }

    private int comingBeside(int scene) {
        return Integer.bitCount(night.coming & script.scenesOf(script.of(scene, PLAY)));
    }

    /** Asks for changes that are fresh. */
    private boolean performNext(int play) {
        int next = nextOf(play);
        if (next == NONE) {
            return false;
        }
        night.perform(script, next, changes.between(night.last, next));
        return true;
    }

    private int refusalToDrop(int scene) {
        if (!script.has(scene)) {
            return NONE;
        }
        return (night.coming & (1 << scene)) == 0 ? NOT_NOW : 0;
    }

    private boolean act(int sign, int behind) {
        if (sign == 'w') {
            night.now += behind - '0';
            return true;
        }
        if (sign == 'x') {
            int scene = behind - 'a';
            boolean can = refusalToDrop(scene) == 0;
            if (can) {
                night.drop(scene);
            }
            return can;
        }
        return performNext(sign - '0');
    }

    private int setMinutes(int kind, int n, int f, int step) {
        int sum = 0;
        for (int k = 0; k < script.size; k++) {
            int minutes = 1;
            if (k < n) {
                minutes = Math.max(1, Math.min(9, entry(kind, f + k * step)));
            }
            script.put(k, MINUTES, minutes);
            sum += minutes;
        }
        changes.growStale();
        return sum;
    }

    private static int entry(int kind, int value) {
        switch (kind) {
            case 0: return (byte) value;
            case 1: return (short) value;
            default: return value;
        }
    }

    private void readyLoom(Changes by) {
        by.refresh(script);
        loom.setCosts(by, night.last);
        loom.lay(night.coming);
    }

    /** SCENES, each as seven numbers in the order in which scene() tells them. */
    private static final class Script {
        private final int[] fields = new int[MOST_SCENES * SCENE_FIELDS];
        private final int[] ofPlay = new int[2];
        private int size;

        boolean has(int scene) {
            return scene >= 0 && scene < size;
        }

        int of(int scene, int what) {
            int place = scene * SCENE_FIELDS + what;
            return place >= 0 && place < fields.length ? fields[place] : 0;
        }

        /** May go to a place behind the last SCENE, where a LINE is put together ahead of grow(). */
        void put(int scene, int what, int value) {
            int place = scene * SCENE_FIELDS + what;
            if (place >= 0 && place < fields.length) {
                fields[place] = value;
            }
        }

        /** The SCENES that came (bits). */
        int grow(int lines) {
            int fresh = 0;
            for (int k = 0; k < lines && size < MOST_SCENES; k++) {
                int bit = 1 << size;
                fresh |= bit;
                int which = of(size, PLAY) == 1 ? 1 : 0;
                ofPlay[which] |= bit;
                size++;
            }
            return fresh;
        }

        int scenesOf(int play) {
            return play == 0 || play == 1 ? ofPlay[play] : 0;
        }

        int sumOf(int set, int what) {
            int sum = 0;
            for (int scene = 0; scene < size; scene++) {
                if ((set >> scene & 1) == 1) {
                    sum += of(scene, what);
                }
            }
            return sum;
        }

        int unionOf(int set, int what) {
            int union = 0;
            for (int scene = 0; scene < size; scene++) {
                if ((set >> scene & 1) == 1) {
                    union |= of(scene, what);
                }
            }
            return union;
        }

        boolean follows(int scene, int known) {
            int needed = of(scene, NEEDED);
            return needed < 0 || (known >> needed & 1) == 1;
        }

        int cheerWith(int scene, int known) {
            int cheer = of(scene, CHEER);
            return follows(scene, known) ? cheer : cheer / 2;
        }

        /** The FACT that it tells, as a set. */
        int factOf(int scene) {
            int told = of(scene, TOLD);
            return told < 0 ? 0 : 1 << told;
        }
    }

    /** What undo() and again() bring back. */
    private static final class Night {
        private int now;
        private int last = NONE;
        private int coming;
        private int played;
        private int dropped;
        private int knownFirst;
        private int knownSecond;
        private int cheersFirst;
        private int cheersSecond;

        void copyFrom(Night other) {
            now = other.now;
            last = other.last;
            coming = other.coming;
            played = other.played;
            dropped = other.dropped;
            knownFirst = other.knownFirst;
            knownSecond = other.knownSecond;
            cheersFirst = other.cheersFirst;
            cheersSecond = other.cheersSecond;
        }

        int knownIn(int house) {
            return house == 0 ? knownFirst : knownSecond;
        }

        int cheersIn(int house) {
            return house == 0 ? cheersFirst : cheersSecond;
        }

        int stateOf(int scene) {
            int bit = 1 << scene;
            if ((played & bit) != 0) {
                return 1;
            }
            return (dropped & bit) != 0 ? 2 : 0;
        }

        void drop(int scene) {
            int bit = 1 << scene;
            coming &= ~bit;
            dropped |= bit;
        }

        void takeBack(int scene) {
            int bit = 1 << scene;
            dropped &= ~bit;
            coming |= bit;
        }

        /** The CHEERS that it brought. */
        int perform(Script script, int scene, int change) {
            int house = script.of(scene, PLAY);
            int brought = script.cheerWith(scene, knownIn(house));
            int bit = 1 << scene;
            now += change + script.of(scene, MINUTES);
            last = scene;
            coming &= ~bit;
            played |= bit;
            if (house == 0) {
                cheersFirst += brought;
                knownFirst |= script.factOf(scene);
            } else {
                cheersSecond += brought;
                knownSecond |= script.factOf(scene);
            }
            return brought;
        }
    }

    /** Nights as they were: a ring of those that can be undone, and those kept by number. */
    private static final class Past {
        private final Night[] ring = new Night[MOST_UNDONE];
        private final Night[] shelf = new Night[SHELVES];
        private final boolean[] shelved = new boolean[SHELVES];
        private final Night held = new Night();
        private int top;
        private int size;

        Past() {
            for (int k = 0; k < MOST_UNDONE; k++) {
                ring[k] = new Night();
            }
            for (int k = 0; k < SHELVES; k++) {
                shelf[k] = new Night();
            }
        }

        void push(Night night) {
            if (top >= 0 && top < MOST_UNDONE) {
                ring[top].copyFrom(night);
                top = top + 1 < MOST_UNDONE ? top + 1 : 0;
                size = Math.min(MOST_UNDONE, size + 1);
            }
        }

        void hold(Night night) {
            held.copyFrom(night);
        }

        void pushHeld() {
            push(held);
        }

        void putHeldInto(Night night) {
            night.copyFrom(held);
        }

        int popInto(Night night) {
            if (size == 0) {
                return NONE;
            }
            top = top > 0 ? top - 1 : MOST_UNDONE - 1;
            if (top < MOST_UNDONE) {
                night.copyFrom(ring[top]);
            }
            size--;
            return size;
        }

        void forgetUndone() {
            size = 0;
        }

        void clearShelves() {
            for (int k = 0; k < SHELVES; k++) {
                shelved[k] = false;
            }
        }

        boolean isShelved(int i) {
            return i >= 0 && i < SHELVES && shelved[i];
        }

        void shelve(int i, Night night) {
            if (i >= 0 && i < SHELVES) {
                shelf[i].copyFrom(night);
                shelved[i] = true;
            }
        }

        void unshelve(int i, Night night) {
            if (isShelved(i)) {
                night.copyFrom(shelf[i]);
            }
        }
    }

    /** Reads a text sign by sign and tells the first one that can't stand where it is. */
    private abstract static class Reader {
        abstract void begin();

        abstract boolean takes(int sign);

        abstract boolean mayEnd();

        /** The place of the fault, or NONE. */
        int faultIn(char[] signs, int size, int limit) {
            begin();
            int shown = Math.min(size, Math.min(limit, signs.length));
            for (int place = 0; place < shown; place++) {
                if (!takes(signs[place])) {
                    return place;
                }
            }
            if (size > limit) {
                return limit;
            }
            return mayEnd() ? NONE : shown;
        }
    }

    /** Reads LINES of SCENES into the script, behind its last SCENE. */
    private static final class LineReader extends Reader {
        private static final int AT_PLAY = 0;
        private static final int AT_MINUTES = 1;
        private static final int IN_PERSONS = 2;
        private static final int IN_PROPS = 3;
        private static final int AT_TOLD = 4;
        private static final int BEHIND_TOLD = 5;
        private static final int AT_NEEDED = 6;
        private static final int BEHIND_NEEDED = 7;
        private static final int AT_CHEER = 8;
        private static final int BEHIND_CHEER = 9;

        private final Script script;
        private int step;
        private int line;
        private int lines;

        LineReader(Script script) {
            this.script = script;
        }

        int lineCount() {
            return lines;
        }

        void begin() {
            step = AT_PLAY;
            line = script.size;
            lines = 0;
        }

        boolean mayEnd() {
            return step == BEHIND_CHEER;
        }

        boolean takes(int sign) {
            switch (step) {
                case AT_PLAY: return takesPlay(sign);
                case AT_MINUTES: return takesNumber(sign, '1', '9', MINUTES, '0');
                case IN_PERSONS: return takesPerson(sign) || takesProp(sign) || takesMark(sign);
                case IN_PROPS: return takesProp(sign) || takesMark(sign);
                case AT_TOLD: return takesNumber(sign, 'a', 'h', TOLD, 'a');
                case AT_NEEDED: return takesNumber(sign, 'a', 'h', NEEDED, 'a');
                case AT_CHEER: return takesCheer(sign);
                case BEHIND_CHEER: return takesNextLine(sign);
                default: return takesMark(sign);
            }
        }

        private boolean takesPlay(int sign) {
            if (line >= MOST_SCENES || sign != '0' && sign != '1') {
                return false;
            }
            script.put(line, PLAY, sign - '0');
            script.put(line, PERSONS, 0);
            script.put(line, PROPS, 0);
            script.put(line, TOLD, NONE);
            script.put(line, NEEDED, NONE);
            step = AT_MINUTES;
            return true;
        }

        private boolean takesNumber(int sign, int low, int high, int what, int zero) {
            if (sign < low || sign > high) {
                return false;
            }
            script.put(line, what, sign - zero);
            step++;
            return true;
        }

        private boolean takesPerson(int sign) {
            return sign >= 'A' && sign <= 'F' && rises(PERSONS, sign - 'A');
        }

        private boolean takesProp(int sign) {
            if (sign < '1' || sign > '4' || !rises(PROPS, sign - '1')) {
                return false;
            }
            step = IN_PROPS;
            return true;
        }

        private boolean rises(int what, int bit) {
            int had = script.of(line, what);
            if (had >> bit != 0) {
                return false;
            }
            script.put(line, what, had | 1 << bit);
            return true;
        }

        private boolean takesMark(int sign) {
            if (sign == '>' && step <= IN_PROPS) {
                step = AT_TOLD;
                return true;
            }
            if (sign == '<' && step <= BEHIND_TOLD) {
                step = AT_NEEDED;
                return true;
            }
            if (sign == '=' && step <= BEHIND_NEEDED) {
                step = AT_CHEER;
                return true;
            }
            return false;
        }

        private boolean takesCheer(int sign) {
            if (!takesNumber(sign, '0', '9', CHEER, '0')) {
                return false;
            }
            line++;
            lines++;
            return true;
        }

        private boolean takesNextLine(int sign) {
            if (sign != ';') {
                return false;
            }
            step = AT_PLAY;
            return true;
        }
    }

    /** Reads ACTS of AN EVENING. */
    private static final class ActReader extends Reader {
        private int open;

        void begin() {
            open = 0;
        }

        boolean mayEnd() {
            return open == 0;
        }

        boolean takes(int sign) {
            if (open == 'x') {
                open = 0;
                return sign >= 'a' && sign <= 'l';
            }
            if (open == 'w') {
                open = 0;
                return sign >= '0' && sign <= '9';
            }
            if (sign == 'x' || sign == 'w') {
                open = sign;
                return true;
            }
            return sign == '0' || sign == '1';
        }
    }

    /**
     * Reads a rule and turns it, sign by sign, into code for a stack: a number stands for
     * itself, what is below 0 for the sign that it is without the minus.
     */
    private static final class RuleReader extends Reader {
        /** The minus ahead of a thing: no sign has this number. */
        private static final int AHEAD_MINUS = 256;
        private static final int DEEPEST = 4;
        private static final int MOST_DIGITS = 3;

        private final int[] code = new int[RULE_SIGNS];
        private final int[] waiting = new int[RULE_SIGNS];
        private int codeSize;
        private int waitingSize;
        private int depth;
        private int comparedAt;
        private int digits;
        private boolean wantsThing;

        void begin() {
            codeSize = 0;
            waitingSize = 0;
            depth = 0;
            comparedAt = 0;
            digits = 0;
            wantsThing = true;
        }

        boolean mayEnd() {
            if (wantsThing || depth > 0) {
                return false;
            }
            release(0);
            return true;
        }

        boolean takes(int sign) {
            return wantsThing ? takesAhead(sign) : takesBehind(sign);
        }

        static boolean isThing(int sign) {
            return sign == 'o' || sign == 'p' || sign == 'q' || sign == 'm' || sign == 'l' || sign == 's';
        }

        private static boolean isDigit(int sign) {
            return sign >= '0' && sign <= '9';
        }

        private static int rankOf(int sign) {
            switch (sign) {
                case '<':
                case '>':
                case '=': return 1;
                case '+':
                case '-': return 2;
                case '*':
                case '/': return 3;
                case AHEAD_MINUS: return 4;
                default: return 0;
            }
        }

        private boolean takesAhead(int sign) {
            if (sign == '-') {
                hold(AHEAD_MINUS);
                return true;
            }
            if (sign == '(') {
                return opens();
            }
            if (isDigit(sign)) {
                emit(sign - '0');
                digits = 1;
            } else if (isThing(sign)) {
                emit(-sign);
                digits = 0;
            } else {
                return false;
            }
            wantsThing = false;
            return true;
        }

        private boolean takesBehind(int sign) {
            if (isDigit(sign)) {
                return lengthens(sign - '0');
            }
            if (sign == ')') {
                return closes();
            }
            int rank = sign == AHEAD_MINUS ? 0 : rankOf(sign);
            if (rank == 0 || rank == 1 && (comparedAt >> depth & 1) == 1) {
                return false;
            }
            if (rank == 1) {
                comparedAt |= 1 << depth;
            }
            release(rank);
            hold(sign);
            wantsThing = true;
            return true;
        }

        private boolean opens() {
            if (depth >= DEEPEST) {
                return false;
            }
            depth++;
            comparedAt &= ~(1 << depth);
            hold('(');
            return true;
        }

        private boolean closes() {
            if (depth <= 0) {
                return false;
            }
            depth--;
            digits = 0;
            release(1);
            waitingSize = Math.max(0, waitingSize - 1);
            return true;
        }

        private boolean lengthens(int digit) {
            int place = codeSize - 1;
            if (digits < 1 || digits >= MOST_DIGITS || place < 0 || place >= code.length) {
                return false;
            }
            code[place] = code[place] * 10 + digit;
            digits++;
            return true;
        }

        private void hold(int sign) {
            if (waitingSize >= 0 && waitingSize < waiting.length) {
                waiting[waitingSize] = sign;
                waitingSize++;
            }
        }

        /** Signs that bind as much as this rank go into the code; a bracket that is open stops them. */
        private void release(int rank) {
            for (int k = Math.min(waitingSize, waiting.length) - 1; k >= 0; k--) {
                if (waiting[k] == '(' || rankOf(waiting[k]) < rank) {
                    return;
                }
                emit(-waiting[k]);
                waitingSize = k;
            }
        }

        private void emit(int token) {
            if (codeSize >= 0 && codeSize < code.length) {
                code[codeSize] = token;
                codeSize++;
            }
        }
    }

    /** A rule, and how long each change takes by it. */
    private static final class Changes {
        /** o*2+p+q. */
        private static final int[] PLAIN_RULE = {-'o', 2, -'*', -'p', -'+', -'q', -'+'};

        private final int[] code = new int[RULE_SIGNS];
        private final int[] stack = new int[RULE_SIGNS];
        private final int[] table = new int[MOST_SCENES * MOST_SCENES];
        private int codeSize;
        private boolean fresh;

        Changes() {
            takePlain();
        }

        void takePlain() {
            takeCode(PLAIN_RULE, PLAIN_RULE.length);
        }

        void takeFrom(RuleReader reader) {
            takeCode(reader.code, reader.codeSize);
        }

        private void takeCode(int[] from, int size) {
            codeSize = Math.min(size, Math.min(from.length, code.length));
            for (int k = 0; k < codeSize; k++) {
                code[k] = from[k];
            }
            fresh = false;
        }

        void growStale() {
            fresh = false;
        }

        void refresh(Script script) {
            if (fresh) {
                return;
            }
            int size = Math.min(script.size, MOST_SCENES);
            for (int one = 0; one < size; one++) {
                for (int other = 0; other < size; other++) {
                    int minutes = worth(script, one, other);
                    table[one * MOST_SCENES + other] = Math.max(0, Math.min(LONGEST_CHANGE, minutes));
                }
            }
            fresh = true;
        }

        /** Ahead of the night's first SCENE (one is NONE then) no change is needed. */
        int between(int one, int other) {
            if (one < 0 || one >= MOST_SCENES || other < 0 || other >= MOST_SCENES) {
                return 0;
            }
            return table[one * MOST_SCENES + other];
        }

        private int worth(Script script, int one, int other) {
            int top = 0;
            for (int k = 0; k < codeSize && k < code.length; k++) {
                int token = code[k];
                if (token >= 0) {
                    top = pushed(top, token);
                } else if (RuleReader.isThing(-token)) {
                    top = pushed(top, thing(script, -token, one, other));
                } else if (token == -RuleReader.AHEAD_MINUS) {
                    if (top >= 1 && top <= stack.length) {
                        stack[top - 1] = -stack[top - 1];
                    }
                } else if (top >= 2 && top <= stack.length) {
                    stack[top - 2] = joined(-token, stack[top - 2], stack[top - 1]);
                    top--;
                }
            }
            return top > 0 ? stack[0] : 0;
        }

        private int pushed(int top, int value) {
            if (top < 0 || top >= stack.length) {
                return top;
            }
            stack[top] = value;
            return top + 1;
        }

        private static int thing(Script script, int sign, int one, int other) {
            switch (sign) {
                case 'o': return script.of(one, PLAY) == script.of(other, PLAY) ? 0 : 1;
                case 'p': return Integer.bitCount(script.of(one, PERSONS) & script.of(other, PERSONS));
                case 'q': return Integer.bitCount(script.of(one, PROPS) ^ script.of(other, PROPS));
                case 'm': return script.of(other, MINUTES);
                case 'l': return script.of(one, MINUTES);
                default: return Integer.bitCount(script.of(other, PERSONS));
            }
        }

        private static int joined(int sign, int left, int right) {
            switch (sign) {
                case '+': return left + right;
                case '-': return left - right;
                case '*': return left * right;
                case '/': return right == 0 ? 0 : left / right;
                case '<': return left < right ? 1 : 0;
                case '>': return left > right ? 1 : 0;
                default: return left == right ? 1 : 0;
            }
        }
    }

    /**
     * Weaves of the SCENES laid out. How far a weave has come is told by how many SCENES of
     * PLAY 0 (i) and of PLAY 1 (j) are played, and of which PLAY the latest one was.
     */
    private static final class Loom {
        private static final int SIDE = MOST_SCENES + 1;
        /** Stands for what was played last ahead of the weave, also if that is nothing. */
        private static final int AHEAD = MOST_SCENES;
        private static final int FAR = 1000000;

        private final Script script;
        private final int[] cost = new int[SIDE * MOST_SCENES];
        /** For each PLAY a row: AHEAD, then its SCENES. */
        private final int[] order = new int[2 * SIDE];
        private final int[] values = new int[SIDE * SIDE * 2];
        private final int[] turns = new int[MOST_SCENES];
        private int turnsSize;
        private int firstSize;
        private int secondSize;
        private int firstLimit;
        private int secondLimit;
        private int cutSet;
        private int cutMinutes;
        private int cutCheer;
        private int cutCount;
        private int cutLimit;
        private int leastChange;

        Loom(Script script) {
            this.script = script;
        }

        /** What it takes to play a SCENE behind another one: the change and its minutes. */
        void setCosts(Changes changes, int last) {
            for (int other = 0; other < MOST_SCENES; other++) {
                int minutes = script.of(other, MINUTES);
                for (int one = 0; one < MOST_SCENES; one++) {
                    cost[one * MOST_SCENES + other] = changes.between(one, other) + minutes;
                }
                cost[AHEAD * MOST_SCENES + other] = changes.between(last, other) + minutes;
            }
        }

        void lay(int set) {
            firstSize = layPlay(set, 0);
            secondSize = layPlay(set, 1);
        }

        private int layPlay(int set, int play) {
            int own = set & script.scenesOf(play);
            int base = play == 0 ? 0 : SIDE;
            int found = 0;
            order[base] = AHEAD;
            for (int scene = 0; scene < MOST_SCENES; scene++) {
                if ((own >> scene & 1) == 1) {
                    found++;
                    order[base + found] = scene;
                }
            }
            return found;
        }

        int sizeOf(int play) {
            return play == 0 ? firstSize : secondSize;
        }

        int turnAt(int k) {
            return k >= 0 && k < turns.length ? turns[k] : 0;
        }

        private int valueAt(int i, int j, int latest) {
            int place = (i * SIDE + j) * 2 + latest;
            return place >= 0 && place < values.length ? values[place] : FAR;
        }

        private void put(int i, int j, int latest, int value) {
            int place = (i * SIDE + j) * 2 + latest;
            if (place >= 0 && place < values.length) {
                values[place] = value;
            }
        }

        /** Minutes of the next SCENE of a PLAY (there is one) with the change ahead of it. */
        private int stepBy(int i, int j, int latest, int play) {
            int ahead = latest == 0 ? i : SIDE + j;
            int next = play == 0 ? i + 1 : SIDE + j + 1;
            if (ahead < 0 || ahead >= order.length || next < 0 || next >= order.length) {
                return FAR;
            }
            int place = order[ahead] * MOST_SCENES + order[next];
            return place >= 0 && place < cost.length ? cost[place] : FAR;
        }

        private int valueBehind(int i, int j, int play) {
            int place = play == 0 ? ((i + 1) * SIDE + j) * 2 : (i * SIDE + j + 1) * 2 + 1;
            return place >= 0 && place < values.length ? values[place] : FAR;
        }

        private int restBy(int i, int j, int latest, int play) {
            return stepBy(i, j, latest, play) + valueBehind(i, j, play);
        }

        private int restFrom(int i, int j, int latest, boolean longest) {
            if (i >= firstSize) {
                return j >= secondSize ? 0 : restBy(i, j, latest, 1);
            }
            int byFirst = restBy(i, j, latest, 0);
            if (j >= secondSize) {
                return byFirst;
            }
            int bySecond = restBy(i, j, latest, 1);
            return longest ? Math.max(byFirst, bySecond) : Math.min(byFirst, bySecond);
        }

        private int fillBack(boolean longest) {
            for (int i = firstSize; i >= 0; i--) {
                for (int j = secondSize; j >= 0; j--) {
                    put(i, j, 0, restFrom(i, j, 0, longest));
                    put(i, j, 1, restFrom(i, j, 1, longest));
                }
            }
            return valueAt(0, 0, 0);
        }

        int shortest() {
            return fillBack(false);
        }

        int longest() {
            return fillBack(true);
        }

        /** To be called behind shortest(). */
        int shortestFrom(int play) {
            return restBy(0, 0, 0, play);
        }

        /** To be called behind shortest(). */
        void findShortestTurns() {
            int i = 0;
            int j = 0;
            int latest = 0;
            turnsSize = 0;
            int all = firstSize + secondSize;
            for (int k = 0; k < all && k < turns.length; k++) {
                boolean first = i < firstSize && restBy(i, j, latest, 0) == valueAt(i, j, latest);
                latest = first ? 0 : 1;
                i += first ? 1 : 0;
                j += first ? 0 : 1;
                turns[k] = latest;
                turnsSize = k + 1;
            }
        }

        int ways() {
            int ways = 1;
            for (int k = 1; k <= firstSize; k++) {
                ways = ways * (secondSize + k) / k;
            }
            return ways;
        }

        /** The latest minute at which a PLAY may come next so that both still end in time. */
        private int latestBy(int i, int j, int latest, int play) {
            int left = play == 0 ? firstSize - i : secondSize - j;
            if (left <= 0) {
                return -FAR;
            }
            int behind = valueBehind(i, j, play);
            if (left == 1) {
                behind = Math.min(behind, play == 0 ? firstLimit : secondLimit);
            }
            return behind - stepBy(i, j, latest, play);
        }

        private int latestAt(int i, int j, int latest) {
            if (i >= firstSize && j >= secondSize) {
                return FAR;
            }
            return Math.max(latestBy(i, j, latest, 0), latestBy(i, j, latest, 1));
        }

        boolean findTurnsBy(int x, int y) {
            firstLimit = x;
            secondLimit = y;
            turnsSize = 0;
            for (int i = firstSize; i >= 0; i--) {
                for (int j = secondSize; j >= 0; j--) {
                    put(i, j, 0, latestAt(i, j, 0));
                    put(i, j, 1, latestAt(i, j, 1));
                }
            }
            if (valueAt(0, 0, 0) < 0) {
                return false;
            }
            followLatest();
            return true;
        }

        private void followLatest() {
            int i = 0;
            int j = 0;
            int latest = 0;
            int minutes = 0;
            int all = firstSize + secondSize;
            for (int k = 0; k < all && k < turns.length; k++) {
                boolean first = latestBy(i, j, latest, 0) >= minutes;
                int play = first ? 0 : 1;
                minutes += stepBy(i, j, latest, play);
                latest = play;
                i += first ? 1 : 0;
                j += first ? 0 : 1;
                turns[k] = play;
                turnsSize = k + 1;
            }
        }

        private int reach(int i, int j, int latest) {
            if (i == 0 && j == 0) {
                return 0;
            }
            int fromI = latest == 0 ? i - 1 : i;
            int fromJ = latest == 0 ? j : j - 1;
            if (fromI < 0 || fromJ < 0) {
                return FAR;
            }
            return Math.min(valueAt(fromI, fromJ, 0) + stepBy(fromI, fromJ, 0, latest),
                    valueAt(fromI, fromJ, 1) + stepBy(fromI, fromJ, 1, latest));
        }

        /** Fills in how soon a weave can have come so far. */
        void fillForth() {
            for (int i = 0; i <= firstSize; i++) {
                for (int j = 0; j <= secondSize; j++) {
                    put(i, j, 0, reach(i, j, 0));
                    put(i, j, 1, reach(i, j, 1));
                }
            }
        }

        private int reachedWith(int play, int own, int others) {
            return play == 0 ? valueAt(own, others, 0) : valueAt(others, own, 1);
        }

        /** How soon so many of a PLAY can be played. To be called behind fillForth(). */
        int soonestWith(int play, int own) {
            int least = FAR;
            for (int others = 0; others <= sizeOf(1 - play); others++) {
                least = Math.min(least, reachedWith(play, own, others));
            }
            return least;
        }

        int fewestOthers(int play, int own, int minutes) {
            for (int others = 0; others <= sizeOf(1 - play); others++) {
                if (reachedWith(play, own, others) == minutes) {
                    return others;
                }
            }
            return 0;
        }

        /** How soon so many SCENES can be played. To be called behind fillForth(). */
        int soonestOf(int many) {
            int least = FAR;
            for (int i = 0; i <= firstSize; i++) {
                int j = many - i;
                if (j >= 0 && j <= secondSize) {
                    least = Math.min(least, Math.min(valueAt(i, j, 0), valueAt(i, j, 1)));
                }
            }
            return least;
        }

        /** The CHEER that is lost; cutSet and cutMinutes tell the rest. */
        int findCut(int coming, int limit) {
            cutLimit = limit;
            cutSet = coming;
            cutMinutes = 0;
            cutCheer = script.sumOf(coming, CHEER);
            cutCount = Integer.bitCount(coming);
            leastChange = leastChangeAmong(coming);
            tryCuts(coming, MOST_SCENES - 1, 0, 0, -leastChange);
            return cutCheer;
        }

        private int leastChangeAmong(int coming) {
            int least = LONGEST_CHANGE;
            for (int other = 0; other < MOST_SCENES; other++) {
                int minutes = script.of(other, MINUTES);
                for (int one = 0; one < MOST_SCENES; one++) {
                    int bits = 1 << one | 1 << other;
                    if (one != other && (coming & bits) == bits) {
                        least = Math.min(least, cost[one * MOST_SCENES + other] - minutes);
                    }
                }
            }
            return least;
        }

        /**
         * Keeps or cuts the SCENES from this one down to 0, such sets first that are less.
         * What is kept takes at least these minutes, however it is woven.
         */
        private void tryCuts(int coming, int scene, int set, int cheer, int minutes) {
            int many = Integer.bitCount(set);
            boolean better = cheer < cutCheer || cheer == cutCheer && many < cutCount;
            if (!better || minutes > cutLimit) {
                return;
            }
            if (scene < 0) {
                takeCut(coming, set, cheer);
                return;
            }
            int bit = 1 << scene;
            if ((coming & bit) == 0) {
                tryCuts(coming, scene - 1, set, cheer, minutes);
                return;
            }
            tryCuts(coming, scene - 1, set, cheer, minutes + leastChange + script.of(scene, MINUTES));
            tryCuts(coming, scene - 1, set | bit, cheer + script.of(scene, CHEER), minutes);
        }

        private void takeCut(int coming, int set, int cheer) {
            lay(coming & ~set);
            int minutes = fillBack(false);
            if (minutes <= cutLimit) {
                cutSet = set;
                cutMinutes = minutes;
                cutCheer = cheer;
                cutCount = Integer.bitCount(set);
            }
        }
    }

    /** What each house knows, and what follows from it. */
    private static final class Story {
        private final Script script;
        private final Night night;
        private final int[] mine = new int[MOST_SCENES];
        private int[] most = new int[0];

        Story(Script script, Night night) {
            this.script = script;
            this.night = night;
        }

        /** SCENES of this set whose FACT would not be known, if all of it were played by numbers. */
        int clashing(int set) {
            int knownFirst = night.knownIn(0);
            int knownSecond = night.knownIn(1);
            int clashing = 0;
            for (int scene = 0; scene < script.size; scene++) {
                if ((set >> scene & 1) == 0) {
                    continue;
                }
                boolean first = script.of(scene, PLAY) == 0;
                if (!script.follows(scene, first ? knownFirst : knownSecond)) {
                    clashing |= 1 << scene;
                }
                if (first) {
                    knownFirst |= script.factOf(scene);
                } else {
                    knownSecond |= script.factOf(scene);
                }
            }
            return clashing;
        }

        int lostIn(int set) {
            int lost = 0;
            for (int scene = 0; scene < script.size; scene++) {
                if ((set >> scene & 1) == 1) {
                    int cheer = script.of(scene, CHEER);
                    lost += cheer - cheer / 2;
                }
            }
            return lost;
        }

        int factsNeeded(int set) {
            int facts = 0;
            for (int scene = 0; scene < script.size; scene++) {
                int needed = script.of(scene, NEEDED);
                if ((set >> scene & 1) == 1 && needed >= 0) {
                    facts |= 1 << needed;
                }
            }
            return facts;
        }

        int sparable() {
            int clashing = clashing(night.coming);
            int spared = 0;
            for (int scene = 0; scene < script.size; scene++) {
                int bit = 1 << scene;
                if ((night.coming & bit) != 0 && (clashing(night.coming & ~bit) & ~clashing) == 0) {
                    spared |= bit;
                }
            }
            return spared;
        }

        int broughtInOrder(int play) {
            int own = night.coming & script.scenesOf(play);
            int known = night.knownIn(play);
            int brought = 0;
            for (int scene = 0; scene < script.size; scene++) {
                if ((own >> scene & 1) == 1) {
                    brought += script.cheerWith(scene, known);
                    known |= script.factOf(scene);
                }
            }
            return brought;
        }

        private int gather(int play) {
            int own = night.coming & script.scenesOf(play);
            int found = 0;
            for (int scene = 0; scene < script.size; scene++) {
                if ((own >> scene & 1) == 1 && found < mine.length) {
                    mine[found] = scene;
                    found++;
                }
            }
            return found;
        }

        /** The most over all orders: what a house knows hangs on which were played, not on their order. */
        int mostBrought(int play) {
            int many = gather(play);
            int sets = 1 << many;
            if (most.length < sets) {
                most = new int[sets];
            }
            for (int set = 0; set < sets && set < most.length; set++) {
                most[set] = 0;
            }
            for (int set = 0; set < sets; set++) {
                spread(set, many, night.knownIn(play) | toldBy(set, many));
            }
            int all = sets - 1;
            return all < most.length ? most[all] : 0;
        }

        private int toldBy(int set, int many) {
            int told = 0;
            for (int k = 0; k < many && k < mine.length; k++) {
                if ((set >> k & 1) == 1) {
                    told |= script.factOf(mine[k]);
                }
            }
            return told;
        }

        private void spread(int set, int many, int known) {
            for (int k = 0; k < many && k < mine.length; k++) {
                int more = set | 1 << k;
                if (more != set && more < most.length && set < most.length) {
                    most[more] = Math.max(most[more], most[set] + script.cheerWith(mine[k], known));
                }
            }
        }
    }

    /** Persons, props, and how companies share. */
    private static final class Company {
        private static final int TAKEN_AT_MOST = 3;
        /** Two coins go from the one to the other, so they count twice. */
        private static final int LAST_LAMP = 4;

        private final Script script;
        private final int[] weights = new int[MOST_SCENES + 1];
        private final int[] leads = new int[MOST_LAMPS + 1];

        Company(Script script) {
            this.script = script;
        }

        /** SCENES in which one of these PERSONS is at least. */
        int scenesWith(int persons) {
            int found = 0;
            for (int scene = 0; scene < script.size; scene++) {
                if ((script.of(scene, PERSONS) & persons) != 0) {
                    found |= 1 << scene;
                }
            }
            return found;
        }

        int propsInAll(int set) {
            int props = ALL_PROPS;
            for (int scene = 0; scene < script.size; scene++) {
                if ((set >> scene & 1) == 1) {
                    props &= script.of(scene, PROPS);
                }
            }
            return props;
        }

        int fewestAsked(int set) {
            int peopled = set & scenesWith(PERSON_SETS - 1);
            int best = PERSON_SETS - 1;
            for (int asked = PERSON_SETS - 1; asked >= 0; asked--) {
                boolean covers = (peopled & ~scenesWith(asked)) == 0;
                if (covers && Integer.bitCount(asked) <= Integer.bitCount(best)) {
                    best = asked;
                }
            }
            return best;
        }

        /** How heavy each number of SCENES is that can be played, in parts of ten to the sixth. */
        void weighCounts(int set, int p) {
            for (int k = 0; k < weights.length; k++) {
                weights[k] = 0;
            }
            for (int there = 0; there < PERSON_SETS; there++) {
                int playable = set & ~scenesWith(PERSON_SETS - 1 - there);
                int many = Integer.bitCount(playable);
                if (many < weights.length) {
                    weights[many] += weightOfSet(there, p);
                }
            }
        }

        private static int weightOfSet(int there, int p) {
            int weight = 1;
            for (int person = 0; person < PERSON_COUNT; person++) {
                weight *= (there >> person & 1) == 1 ? TENTHS - p : p;
            }
            return weight;
        }

        int heaviestCount() {
            int best = 0;
            for (int k = 1; k < weights.length; k++) {
                if (weights[k] > weights[best]) {
                    best = k;
                }
            }
            return best;
        }

        int weightOf(int many) {
            return many >= 0 && many < weights.length ? weights[many] : 0;
        }

        int weightOfAll() {
            int all = 1;
            for (int person = 0; person < PERSON_COUNT; person++) {
                all *= TENTHS;
            }
            return all;
        }

        private static int share(int coins, int own, int others) {
            if (own + others <= coins) {
                return own;
            }
            int half = coins / 2;
            return Math.max(0, half - Math.max(0, own - half));
        }

        boolean atRest(int coins, int one, int other) {
            int mine = share(coins, one, other);
            int theirs = share(coins, other, one);
            for (int claim = 0; claim <= coins; claim++) {
                if (share(coins, claim, other) > mine || share(coins, claim, one) > theirs) {
                    return false;
                }
            }
            return true;
        }

        void fillLeads(int lamps) {
            for (int left = 1; left <= lamps && left < leads.length; left++) {
                leads[left] = leadByTaking(left, firstTake(left));
            }
        }

        int leadWith(int lamps) {
            return lamps >= 0 && lamps < leads.length ? leads[lamps] : 0;
        }

        private int leadByTaking(int lamps, int taken) {
            return taken == lamps ? taken - LAST_LAMP : taken - leadWith(lamps - taken);
        }

        /** Asks for fillLeads() of all smaller numbers. */
        int firstTake(int lamps) {
            int best = 1;
            for (int taken = 2; taken <= TAKEN_AT_MOST && taken <= lamps; taken++) {
                if (leadByTaking(lamps, taken) > leadByTaking(lamps, best)) {
                    best = taken;
                }
            }
            return best;
        }

        int fitting(int seen, int bowed) {
            int fitting = 0;
            for (int scene = 0; scene < script.size; scene++) {
                if ((script.of(scene, PERSONS) & seen) == bowed) {
                    fitting |= 1 << scene;
                }
            }
            return fitting;
        }

        int mostLeft(int fitting, int person) {
            int with = Integer.bitCount(fitting & scenesWith(1 << person));
            return Math.max(with, Integer.bitCount(fitting) - with);
        }
    }
}
