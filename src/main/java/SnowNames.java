import java.util.Arrays;
import java.util.NoSuchElementException;

/** Names that are held in snow. The promises are in ../shared/DOC.md; its words are used here. */
public final class SnowNames {
    public static final int NONE = -1;

    private static final int MAX_TAPE = 400;
    private static final int FEED_BYTES = 20;
    private static final int MAX_ROW_BYTES = 40;
    private static final int MAX_TEXTS = 12;
    private static final int MAX_FIELDS = 6;
    private static final int MAX_PEOPLE = 6;
    private static final int MAX_LETTERS = 6;
    private static final int KINDS_OF_LETTERS = 8;
    private static final int MAX_DEBTS = 8;
    private static final int MAX_SUM = 99;
    private static final int MAX_SNOW = 99;
    private static final int MAX_SLOPE = 9;
    private static final int MAX_DEPTH = 9;
    private static final int MAX_DAY = 9999;
    private static final int MAX_AHEAD = 60;
    private static final int MAX_REMEMBERED = 12;
    private static final int MAX_ODDS = 5;
    private static final int LAST_SEED = 6;

    // Where World.settings holds each number that a province tells.
    private static final int FLAKES = 0;
    private static final int FALL = 1;
    private static final int HARES = 2;
    private static final int WIND = 3;
    private static final int DAY = 4;
    private static final int SETTINGS = 5;

    // Why a row came into the log.
    private static final int ROW_WRITTEN = 0;
    private static final int ROW_STRUCK = 1;
    private static final int ROW_WENT = 2;
    private static final int ROW_ALTERED = 3;
    private static final int ROW_BLOWN = 4;

    private final int[] tape = new int[MAX_TAPE];
    private int tapeSize = 0;
    private int faultAt = NONE;
    private final World now = new World();
    private final World spare = new World();
    private final World kept = new World();
    private boolean isKept = false;
    private final World[] memory = new World[MAX_REMEMBERED];
    private int oldest = 0;
    private int remembered = 0;
    private final ProvinceText provinceText = new ProvinceText();
    private final LawText lawText = new LawText();
    private final Names names = new Names();
    private final Lasting lasting = new Lasting();
    private final int[] groups = new int[1 << MAX_PEOPLE];
    private final int[] sledges = new int[MAX_FIELDS];
    private final long[] chances = new long[MAX_ODDS + 1];

    public SnowNames() {
        for (int i = 0; i < MAX_REMEMBERED; i++) {
            memory[i] = new World();
        }
    }

    // ---- the tape and the texts

    public int feed(int a, int b, int c, int d, int e) {
        if (tapeSize + FEED_BYTES > MAX_TAPE) {
            return NONE;
        }
        putBytes(a);
        putBytes(b);
        putBytes(c);
        putBytes(d);
        putBytes(e);
        return tapeSize;
    }

    private void putBytes(int n) {
        for (int shift = 24; shift >= 0; shift -= 8) {
            if (tapeSize < MAX_TAPE) {
                tape[tapeSize] = n >>> shift & 255;
                tapeSize++;
            }
        }
    }

    public boolean end(int n) {
        if (n < 0 || n > tapeSize) {
            return false;
        }
        tapeSize = n;
        return true;
    }

    public int province() throws IllegalArgumentException, UnsupportedOperationException {
        int length = useTape();
        spare.copyFrom(now);
        boolean right = provinceText.read(spare, tape, length);
        faultAt = provinceText.words.wrong;
        if (!right) {
            throw new IllegalArgumentException("a wrong text");
        }
        if (now.texts >= MAX_TEXTS) {
            throw new UnsupportedOperationException("too many texts");
        }
        now.copyFrom(spare);
        now.texts++;
        remembered = 0;
        return now.texts;
    }

    public int law() throws IllegalArgumentException {
        Law told = lawText.read(tape, useTape());
        faultAt = lawText.words.wrong;
        if (told == null) {
            throw new IllegalArgumentException("a wrong text");
        }
        now.law = told;
        remembered = 0;
        return told.lines;
    }

    public int fault() {
        return faultAt;
    }

    private int useTape() {
        int length = tapeSize;
        tapeSize = 0;
        return length;
    }

    // ---- what is there

    public int field(int field, int what) throws IndexOutOfBoundsException, NoSuchElementException {
        needField(field);
        switch (what) {
            case 0:
                return now.slope[field];
            case 1:
                return now.snow[field];
            case 2:
                return now.room[field];
            case 3:
                return now.usedOf(field);
            case 4:
                return now.bitsThere(field);
            default:
                throw new NoSuchElementException("no such what");
        }
    }

    public int person(int person, int what) throws IndexOutOfBoundsException, NoSuchElementException {
        needPerson(person);
        switch (what) {
            case 0:
                return now.size[person];
            case 1:
                return now.on[person];
            case 2:
                return now.marksLeft(person);
            case 3:
                return now.isWhole(person) ? 1 : 0;
            case 4:
                return now.readAs(person);
            case 5:
                return lasting.daysOf(now, person);
            case 6:
                return lasting.longestField(now, person);
            case 7:
                return now.debts.balance(person);
            case 8:
                return partOf(person);
            default:
                throw new NoSuchElementException("no such what");
        }
    }

    private int partOf(int person) {
        int all = now.debts.allOwed();
        return all <= 0 ? 0 : 100 * now.debts.owedBy(person) / all;
    }

    public int letter(int person, int k, int what) throws IndexOutOfBoundsException, NoSuchElementException {
        needPerson(person);
        if (what < 0 || what > 3) {
            throw new NoSuchElementException("no such what");
        }
        if (k < 0 || k >= now.size[person] || what > 0 && now.on[person] == NONE) {
            return NONE;
        }
        switch (what) {
            case 0:
                return now.given[MAX_LETTERS * person + k];
            case 1:
                return now.mark[MAX_LETTERS * person + k];
            case 2:
                return now.depth[MAX_LETTERS * person + k];
            default:
                return now.readLetter(person, k);
        }
    }

    public int debt(int debt, int what) throws IndexOutOfBoundsException, NoSuchElementException {
        needDebt(debt);
        switch (what) {
            case 0:
                return now.debts.from[debt];
            case 1:
                return now.debts.to[debt];
            case 2:
                return now.debts.sum[debt];
            default:
                throw new NoSuchElementException("no such what");
        }
    }

    public int melts(int person, int field) throws IndexOutOfBoundsException {
        needPerson(person);
        needField(field);
        return now.meltsOf(person, field);
    }

    public int deep(int person, int field) throws IndexOutOfBoundsException {
        needPerson(person);
        needField(field);
        return now.deepOf(person, field);
    }

    private void needField(int field) {
        if (!now.isField(field)) {
            throw new IndexOutOfBoundsException("no such field");
        }
    }

    private void needPerson(int person) {
        if (!now.isPerson(person)) {
            throw new IndexOutOfBoundsException("no such person");
        }
    }

    private void needDebt(int debt) {
        if (debt < 0 || debt >= now.debts.size) {
            throw new IndexOutOfBoundsException("no such debt");
        }
    }

    private static void needWithin(int n, int low, int high) {
        if (n < low || n > high) {
            throw new IllegalArgumentException("no such number");
        }
    }

    // ---- acts

    public int days(int n) throws IllegalArgumentException {
        needWithin(n, 1, MAX_AHEAD);
        remember();
        int snowed = 0;
        for (int i = 0; i < n; i++) {
            if (Days.pass(now)) {
                snowed++;
            }
        }
        return snowed;
    }

    public int write(int person, int field) throws IndexOutOfBoundsException, IllegalStateException {
        needPerson(person);
        needField(field);
        if (now.snow[field] <= 0 || now.roomFor(person, field) < now.size[person]) {
            throw new IllegalStateException("no snow or no room");
        }
        remember();
        int depth = now.deepOf(person, field);
        now.putOn(person, field, depth);
        now.log.add(now.settings[DAY], person, ROW_WRITTEN, field);
        return depth;
    }

    public int strike(int person) throws IndexOutOfBoundsException, IllegalStateException {
        needPerson(person);
        needOn(person);
        remember();
        int field = now.on[person];
        now.on[person] = NONE;
        now.log.add(now.settings[DAY], person, ROW_STRUCK, field);
        return field;
    }

    public int tread(int person, int n)
            throws IndexOutOfBoundsException, IllegalArgumentException, IllegalStateException {
        needPerson(person);
        needWithin(n, 1, MAX_DEPTH);
        needOn(person);
        remember();
        return now.treadDeeper(person, n);
    }

    public int lend(int person, int other, int n)
            throws IndexOutOfBoundsException, IllegalArgumentException, IllegalStateException {
        needPerson(person);
        needPerson(other);
        needUnlike(person, other);
        needWithin(n, 1, MAX_SUM);
        if (now.debts.size >= MAX_DEBTS) {
            throw new IllegalStateException("too many debts");
        }
        remember();
        now.debts.add(person, other, n);
        return now.debts.size - 1;
    }

    public int pay(int debt) throws IndexOutOfBoundsException, IllegalStateException {
        needDebt(debt);
        if (!now.isWhole(now.debts.from[debt]) || !now.isWhole(now.debts.to[debt])) {
            throw new IllegalStateException("somebody is not whole");
        }
        remember();
        int sum = now.debts.sum[debt];
        now.debts.remove(debt);
        return sum;
    }

    public int slope(int field, int n) throws IndexOutOfBoundsException, IllegalArgumentException {
        needField(field);
        needWithin(n, 0, MAX_SLOPE);
        remember();
        int before = now.slope[field];
        now.slope[field] = n;
        return before;
    }

    public int snow(int field, int n) throws IndexOutOfBoundsException, IllegalArgumentException {
        needField(field);
        needWithin(n, 1, MAX_SNOW);
        remember();
        now.snow[field] = Math.min(MAX_SNOW, now.snow[field] + n);
        return now.snow[field];
    }

    private void needOn(int person) {
        if (now.on[person] == NONE) {
            throw new IllegalStateException("on no field");
        }
    }

    private static void needUnlike(int person, int other) {
        if (person == other) {
            throw new IllegalArgumentException("both are one");
        }
    }

    // ---- till a day

    public int till(int n, int person) throws IndexOutOfBoundsException, IllegalArgumentException {
        if (person != NONE) {
            needPerson(person);
        }
        needWithin(n, 1, MAX_AHEAD);
        lasting.place(now, n);
        return person == NONE ? lasting.mostWhole() : lasting.placeOf(person);
    }

    // ---- names

    public int who() throws IllegalArgumentException {
        int length = useRows();
        return names.fitting(now, tape, length);
    }

    public int likely() throws IllegalArgumentException {
        int length = useRows();
        return names.likeliest(now, tape, length);
    }

    public int look() throws IllegalArgumentException {
        int length = useRows();
        return names.placeToLookAt(now, names.fitting(now, tape, length));
    }

    private int useRows() {
        int length = useTape();
        if (!Names.areRows(tape, length)) {
            throw new IllegalArgumentException("not rows of a place and a letter");
        }
        return length;
    }

    public int places() {
        return names.fewestPlaces(now);
    }

    public int change(int person, int other) throws IndexOutOfBoundsException {
        needPerson(person);
        needPerson(other);
        return names.changes(now, person, other);
    }

    public boolean mixed(int person, int other) throws IndexOutOfBoundsException {
        needPerson(person);
        needPerson(other);
        return Names.areMixed(now, person, other);
    }

    public int safe() {
        return names.mostSafe(now);
    }

    public int together(int person, int other, int k) throws IndexOutOfBoundsException, IllegalArgumentException {
        needPerson(person);
        needPerson(other);
        needUnlike(person, other);
        names.runTogether(now, person, other);
        return k == NONE ? names.joinedSize() : names.joinedLetter(k);
    }

    public int pairs(int person) throws IndexOutOfBoundsException {
        if (person != NONE) {
            needPerson(person);
        }
        names.pairAll(now);
        return person == NONE ? names.sharedLetters() : names.partnerOf(person);
    }

    public int twins() {
        int pairs = 0;
        for (int p = 0; p < now.people; p++) {
            for (int q = p + 1; q < now.people; q++) {
                if (Names.areAlike(now, p, q)) {
                    pairs++;
                }
            }
        }
        return pairs;
    }

    public int having(int letter) throws IndexOutOfBoundsException {
        if (letter < 0 || letter >= KINDS_OF_LETTERS) {
            throw new IndexOutOfBoundsException("no such letter");
        }
        int bits = 0;
        for (int p = 0; p < now.people; p++) {
            if ((now.lettersOf(p) >> letter & 1) == 1) {
                bits |= 1 << p;
            }
        }
        return bits;
    }

    // ---- debts

    public int settle() {
        return now.debts.fewestPayments(now.people, groups);
    }

    public int ring() {
        return now.debts.shortestRing(now.people);
    }

    public int poorest() {
        int best = NONE;
        for (int p = 0; p < now.people; p++) {
            if (best == NONE || now.debts.balance(p) > now.debts.balance(best)) {
                best = p;
            }
        }
        return best;
    }

    public int clear() {
        int bits = (1 << now.people) - 1;
        for (int i = 0; i < now.debts.size; i++) {
            bits &= ~(1 << now.debts.from[i] | 1 << now.debts.to[i]);
        }
        return bits;
    }

    // ---- games

    public boolean wins() {
        return Strikes.worthOfAll(now) != 0;
    }

    public int first() {
        return Strikes.winningStrike(now);
    }

    public int share(int field, int n) throws IndexOutOfBoundsException, IllegalArgumentException {
        needField(field);
        needWithin(n, 0, 99);
        Arrays.fill(sledges, 0);
        for (int i = 0; i < n; i++) {
            sledges[nextToGet()]++;
        }
        return sledges[field];
    }

    private int nextToGet() {
        int best = 0;
        for (int f = 1; f < now.fields; f++) {
            if (now.room[f] / (sledges[f] + 1) > now.room[best] / (sledges[best] + 1)) {
                best = f;
            }
        }
        return best;
    }

    public int rests(int person, int field) throws IndexOutOfBoundsException {
        needPerson(person);
        needField(field);
        int depth = now.deepOf(person, field);
        int loss = now.meltsOf(person, field);
        int bits = 0;
        for (int clerk = 0; clerk < 2; clerk++) {
            for (int sun = 0; sun < 2; sun++) {
                boolean clerkRests = clerkHas(clerk, sun, depth, loss) >= clerkHas(1 - clerk, sun, depth, loss);
                boolean sunRests = sunHas(clerk, sun, now.slope[field]) >= sunHas(clerk, 1 - sun, now.slope[field]);
                if (clerkRests && sunRests) {
                    bits |= 1 << 2 * clerk + sun;
                }
            }
        }
        return bits;
    }

    private static int clerkHas(int clerk, int sun, int depth, int loss) {
        if (clerk == 0) {
            return sun == 0 ? depth - loss : depth;
        }
        return sun == 0 ? 0 : 1;
    }

    private static int sunHas(int clerk, int sun, int slope) {
        if (clerk == 0) {
            return sun == 0 ? 2 : 1;
        }
        return sun == 0 ? -slope : 0;
    }

    public int odds(int n, int k) throws IllegalArgumentException {
        needWithin(n, 0, MAX_ODDS);
        needWithin(k, 0, MAX_ODDS);
        long come = now.settings[HARES];
        long whole = 1;
        Arrays.fill(chances, 0);
        chances[0] = 1;
        for (int day = 0; day < n; day++) {
            for (int j = MAX_ODDS; j >= 0; j--) {
                chances[j] = chances[j] * (100 - come) + (j > 0 ? chances[j - 1] * come : 0);
            }
            whole *= 100;
        }
        long good = 0;
        for (int j = k; j <= MAX_ODDS; j++) {
            good += chances[j];
        }
        return whole <= 0 ? 0 : (int) (10000 * good / whole);
    }

    // ---- the most, and who

    public int most(int what) throws NoSuchElementException {
        switch (what) {
            case 0:
                return widest();
            case 1:
                return snowiest();
            case 2:
                return longestName();
            default:
                throw new NoSuchElementException("no such what");
        }
    }

    private int widest() {
        int best = NONE;
        for (int f = 0; f < now.fields; f++) {
            if (best == NONE || now.roomLeft(f) > now.roomLeft(best)) {
                best = f;
            }
        }
        return best;
    }

    private int snowiest() {
        int best = NONE;
        for (int f = 0; f < now.fields; f++) {
            if (best == NONE || now.snow[f] > now.snow[best]) {
                best = f;
            }
        }
        return best;
    }

    private int longestName() {
        int best = NONE;
        for (int p = 0; p < now.people; p++) {
            if (best == NONE || now.size[p] > now.size[best]) {
                best = p;
            }
        }
        return best;
    }

    public int written(boolean whole) {
        return whole ? now.bitsWhole() : now.bitsWritten();
    }

    // ---- days ahead

    public int ahead(int field, int n, boolean people) throws IndexOutOfBoundsException, IllegalArgumentException {
        needField(field);
        needWithin(n, 0, MAX_AHEAD);
        spare.copyFrom(now);
        for (int i = 0; i < n; i++) {
            Days.passThawing(spare);
        }
        return people ? spare.bitsThere(field) : spare.snow[field];
    }

    public int trial(int n, boolean snow) throws IllegalArgumentException {
        needWithin(n, 0, MAX_AHEAD);
        tryOut(now.seed, n);
        return snow ? spare.allSnow() : spare.bitsWritten();
    }

    public int span(int n, boolean most) throws IllegalArgumentException {
        needWithin(n, 0, MAX_AHEAD);
        int least = MAX_PEOPLE;
        int greatest = 0;
        for (int seed = 1; seed <= LAST_SEED; seed++) {
            tryOut(seed, n);
            int whole = Integer.bitCount(spare.bitsWhole());
            least = Math.min(least, whole);
            greatest = Math.max(greatest, whole);
        }
        return most ? greatest : least;
    }

    private void tryOut(int seed, int n) {
        spare.copyFrom(now);
        spare.seed = seed;
        for (int i = 0; i < n; i++) {
            Days.pass(spare);
        }
    }

    // ---- the log, acts undone, the image

    public int led(int person, boolean day) throws IndexOutOfBoundsException {
        needPerson(person);
        return day ? now.log.latestDay(person) : now.log.rowsOf(person);
    }

    public int log(int ago, int what) throws NoSuchElementException {
        if (what < 0 || what >= Log.CELLS) {
            throw new NoSuchElementException("no such what");
        }
        return now.log.cell(ago, what);
    }

    public int seed(int n) {
        int before = now.seed;
        now.seed = n;
        return before;
    }

    public boolean undo() {
        if (remembered <= 0) {
            return false;
        }
        remembered--;
        now.copyFrom(memory[(oldest + remembered) % MAX_REMEMBERED]);
        return true;
    }

    private void remember() {
        if (remembered >= MAX_REMEMBERED) {
            oldest = (oldest + 1) % MAX_REMEMBERED;
            remembered--;
        }
        memory[(oldest + remembered) % MAX_REMEMBERED].copyFrom(now);
        remembered++;
    }

    public void image() {
        kept.copyFrom(now);
        isKept = true;
    }

    public boolean back() {
        if (!isKept) {
            return false;
        }
        now.copyFrom(kept);
        remembered = 0;
        return true;
    }

    public int count(int what) {
        switch (what) {
            case 0:
                return now.fields;
            case 1:
                return now.people;
            case 2:
                return now.debts.size;
            case 3:
                return now.texts;
            case 4:
                return now.law == null ? NONE : now.law.lines;
            case 5:
            case 6:
            case 7:
            case 8:
            case 9:
                return now.settings[what - 5];
            case 10:
                return now.allSnow();
            case 11:
                return now.log.size;
            case 12:
                return remembered;
            default:
                return NONE;
        }
    }

    /** All that an act or a text may change: what is undone, kept and gone back to. */
    private static final class World {
        int fields = 0;
        final int[] slope = new int[MAX_FIELDS];
        final int[] snow = new int[MAX_FIELDS];
        final int[] room = new int[MAX_FIELDS];
        int people = 0;
        final int[] size = new int[MAX_PEOPLE];
        final int[] given = new int[MAX_PEOPLE * MAX_LETTERS];
        final int[] on = new int[MAX_PEOPLE];
        final int[] mark = new int[MAX_PEOPLE * MAX_LETTERS];
        final int[] depth = new int[MAX_PEOPLE * MAX_LETTERS];
        final Debts debts = new Debts();
        final Log log = new Log();
        final int[] settings = new int[SETTINGS];
        int seed = 1;
        int texts = 0;
        // What a law tells is never altered, so that worlds may share one; null without one.
        Law law = null;
        private final int[] facts = new int[Law.FACTS];

        World() {
            settings[FLAKES] = 5;
            settings[FALL] = 50;
        }

        void copyFrom(World other) {
            fields = other.fields;
            System.arraycopy(other.slope, 0, slope, 0, MAX_FIELDS);
            System.arraycopy(other.snow, 0, snow, 0, MAX_FIELDS);
            System.arraycopy(other.room, 0, room, 0, MAX_FIELDS);
            people = other.people;
            System.arraycopy(other.size, 0, size, 0, MAX_PEOPLE);
            System.arraycopy(other.given, 0, given, 0, MAX_PEOPLE * MAX_LETTERS);
            System.arraycopy(other.on, 0, on, 0, MAX_PEOPLE);
            System.arraycopy(other.mark, 0, mark, 0, MAX_PEOPLE * MAX_LETTERS);
            System.arraycopy(other.depth, 0, depth, 0, MAX_PEOPLE * MAX_LETTERS);
            debts.copyFrom(other.debts);
            log.copyFrom(other.log);
            System.arraycopy(other.settings, 0, settings, 0, SETTINGS);
            seed = other.seed;
            texts = other.texts;
            law = other.law;
        }

        boolean isField(int f) {
            return f >= 0 && f < fields;
        }

        boolean isPerson(int p) {
            return p >= 0 && p < people;
        }

        int usedOf(int f) {
            int used = 0;
            for (int p = 0; p < people; p++) {
                if (on[p] == f) {
                    used += size[p];
                }
            }
            return used;
        }

        int roomLeft(int f) {
            return room[f] - usedOf(f);
        }

        /** The room that a person would find, whose own letters there make way. */
        int roomFor(int p, int f) {
            return roomLeft(f) + (on[p] == f ? size[p] : 0);
        }

        int bitsThere(int f) {
            int bits = 0;
            for (int p = 0; p < people; p++) {
                if (on[p] == f) {
                    bits |= 1 << p;
                }
            }
            return bits;
        }

        int bitsWritten() {
            int bits = 0;
            for (int p = 0; p < people; p++) {
                if (on[p] != NONE) {
                    bits |= 1 << p;
                }
            }
            return bits;
        }

        int bitsWhole() {
            int bits = 0;
            for (int p = 0; p < people; p++) {
                if (isWhole(p)) {
                    bits |= 1 << p;
                }
            }
            return bits;
        }

        int allSnow() {
            int all = 0;
            for (int f = 0; f < fields; f++) {
                all += snow[f];
            }
            return all;
        }

        /** The kinds of letters given to one, as bits. */
        int lettersOf(int p) {
            int bits = 0;
            for (int k = 0; k < size[p]; k++) {
                bits |= 1 << given[MAX_LETTERS * p + k];
            }
            return bits;
        }

        int marksLeft(int p) {
            int left = 0;
            for (int k = 0; k < size[p] && on[p] != NONE; k++) {
                if (depth[MAX_LETTERS * p + k] > 0) {
                    left++;
                }
            }
            return left;
        }

        boolean isWhole(int p) {
            if (on[p] == NONE) {
                return false;
            }
            for (int i = MAX_LETTERS * p; i < MAX_LETTERS * p + size[p]; i++) {
                if (depth[i] <= 0 || mark[i] != given[i]) {
                    return false;
                }
            }
            return true;
        }

        /** The k-th letter of what one reads. */
        int readLetter(int p, int k) {
            int seen = 0;
            for (int i = MAX_LETTERS * p; i < MAX_LETTERS * p + size[p]; i++) {
                if (depth[i] > 0) {
                    if (seen == k) {
                        return mark[i];
                    }
                    seen++;
                }
            }
            return NONE;
        }

        /** The person that one is taken for by what is left. */
        int readAs(int p) {
            if (on[p] == NONE) {
                return NONE;
            }
            if (readsAs(p, p)) {
                return p;
            }
            for (int q = 0; q < people; q++) {
                if (readsAs(p, q)) {
                    return q;
                }
            }
            return NONE;
        }

        private boolean readsAs(int p, int q) {
            if (marksLeft(p) != size[q]) {
                return false;
            }
            for (int k = 0; k < size[q]; k++) {
                if (readLetter(p, k) != given[MAX_LETTERS * q + k]) {
                    return false;
                }
            }
            return true;
        }

        void putOn(int p, int f, int deep) {
            on[p] = f;
            for (int i = MAX_LETTERS * p; i < MAX_LETTERS * p + size[p]; i++) {
                mark[i] = given[i];
                depth[i] = deep;
            }
        }

        int treadDeeper(int p, int n) {
            int greatest = 0;
            for (int i = MAX_LETTERS * p; i < MAX_LETTERS * p + size[p]; i++) {
                if (depth[i] > 0) {
                    depth[i] = Math.min(MAX_DEPTH, depth[i] + n);
                }
                greatest = Math.max(greatest, depth[i]);
            }
            return greatest;
        }

        int meltsOf(int p, int f) {
            int sum = slope[f] / 2;
            if (law != null) {
                gather(p, f);
                sum += law.total(Law.MELT, facts) - law.total(Law.KEEP, facts);
            }
            return Math.max(0, sum);
        }

        int deepOf(int p, int f) {
            int sum = 4;
            if (law != null) {
                gather(p, f);
                sum += law.total(Law.DEEP, facts);
            }
            return Math.min(MAX_DEPTH, sum);
        }

        /** Lays out what a law may ask of a person and a field. */
        private void gather(int p, int f) {
            int owed = debts.owedBy(p);
            facts[Law.PERSON] = p;
            facts[Law.FIELD] = f;
            facts[Law.SLOPE] = slope[f];
            facts[Law.SNOW] = snow[f];
            facts[Law.LETTERS] = size[p];
            facts[Law.DEBTS] = owed;
            facts[Law.DAY_OF_HUNDRED] = settings[DAY] % 100;
            facts[Law.WRITTEN] = on[p] != NONE ? 1 : 0;
            facts[Law.WHOLE] = isWhole(p) ? 1 : 0;
            facts[Law.OWES] = owed > 0 ? 1 : 0;
        }
    }

    /** Debts from one to another one, and what is asked of them together. */
    private static final class Debts {
        int size = 0;
        final int[] from = new int[MAX_DEBTS];
        final int[] to = new int[MAX_DEBTS];
        final int[] sum = new int[MAX_DEBTS];

        void copyFrom(Debts other) {
            size = other.size;
            System.arraycopy(other.from, 0, from, 0, MAX_DEBTS);
            System.arraycopy(other.to, 0, to, 0, MAX_DEBTS);
            System.arraycopy(other.sum, 0, sum, 0, MAX_DEBTS);
        }

        void add(int ower, int other, int n) {
            if (size < MAX_DEBTS) {
                from[size] = ower;
                to[size] = other;
                sum[size] = n;
                size++;
            }
        }

        void remove(int debt) {
            for (int i = debt; i + 1 < size; i++) {
                from[i] = from[i + 1];
                to[i] = to[i + 1];
                sum[i] = sum[i + 1];
            }
            size--;
        }

        int allOwed() {
            int all = 0;
            for (int i = 0; i < size; i++) {
                all += sum[i];
            }
            return all;
        }

        int owedBy(int p) {
            int all = 0;
            for (int i = 0; i < size; i++) {
                if (from[i] == p) {
                    all += sum[i];
                }
            }
            return all;
        }

        int balance(int p) {
            int all = 0;
            for (int i = 0; i < size; i++) {
                if (from[i] == p) {
                    all += sum[i];
                }
                if (to[i] == p) {
                    all -= sum[i];
                }
            }
            return all;
        }

        private int balanceOfAll(int people) {
            int all = 0;
            for (int p = 0; p < MAX_PEOPLE; p++) {
                if ((people >> p & 1) == 1) {
                    all += balance(p);
                }
            }
            return all;
        }

        /** A group whose balances are 0 together settles with one payment fewer than it has people. */
        int fewestPayments(int people, int[] most) {
            most[0] = 0;
            for (int set = 1; set < 1 << people; set++) {
                int best = 0;
                for (int p = 0; p < people; p++) {
                    if ((set >> p & 1) == 1) {
                        best = Math.max(best, most[set ^ 1 << p]);
                    }
                }
                most[set] = best + (balanceOfAll(set) == 0 ? 1 : 0);
            }
            return people - most[(1 << people) - 1];
        }

        int shortestRing(int people) {
            int shortest = NONE;
            for (int p = 0; p < people; p++) {
                int reached = 1 << p;
                for (int steps = 1; steps <= people; steps++) {
                    reached = owedByAny(reached);
                    if ((reached >> p & 1) == 1) {
                        shortest = shortest == NONE ? steps : Math.min(shortest, steps);
                        break;
                    }
                }
            }
            return shortest;
        }

        private int owedByAny(int people) {
            int bits = 0;
            for (int i = 0; i < size; i++) {
                if ((people >> from[i] & 1) == 1) {
                    bits |= 1 << to[i];
                }
            }
            return bits;
        }
    }

    /** The latest rows of what came about. */
    private static final class Log {
        static final int CELLS = 4;
        private static final int MAX_ROWS = 60;
        int size = 0;
        private final int[] cells = new int[CELLS * MAX_ROWS];

        void copyFrom(Log other) {
            size = other.size;
            System.arraycopy(other.cells, 0, cells, 0, CELLS * MAX_ROWS);
        }

        void add(int day, int person, int what, int field) {
            if (size >= MAX_ROWS) {
                System.arraycopy(cells, CELLS, cells, 0, CELLS * (MAX_ROWS - 1));
                size = MAX_ROWS - 1;
            }
            int at = CELLS * size;
            cells[at] = day;
            cells[at + 1] = person;
            cells[at + 2] = what;
            cells[at + 3] = field;
            size++;
        }

        int cell(int ago, int what) {
            if (ago < 0 || ago >= size) {
                return NONE;
            }
            return cells[CELLS * (size - 1 - ago) + what];
        }

        int rowsOf(int person) {
            int rows = 0;
            for (int ago = 0; ago < size; ago++) {
                if (cell(ago, 1) == person) {
                    rows++;
                }
            }
            return rows;
        }

        int latestDay(int person) {
            for (int ago = 0; ago < size; ago++) {
                if (cell(ago, 1) == person) {
                    return cell(ago, 0);
                }
            }
            return NONE;
        }
    }

    /** A law as it was read: of each line its kind, its number and its condition, operators behind what they join. */
    private static final class Law {
        static final int MELT = 0;
        static final int KEEP = 1;
        static final int DEEP = 2;

        static final int PERSON = 0;
        static final int FIELD = 1;
        static final int SLOPE = 2;
        static final int SNOW = 3;
        static final int LETTERS = 4;
        static final int DEBTS = 5;
        static final int DAY_OF_HUNDRED = 6;
        static final int WRITTEN = 7;
        static final int WHOLE = 8;
        static final int OWES = 9;
        static final int FACTS = 10;

        // A code below A_FACT is a number, one below NOT a fact, and the others join what stands ahead of them.
        static final int A_FACT = 1000;
        static final int NOT = 2000;
        static final int AND = 2001;
        static final int OR = 2002;
        static final int PLUS = 2003;
        static final int LESS = 2004;
        static final int MORE = 2005;

        // Six deep, each level holds two back, and a comparison three.
        private static final int STACK = 32;

        final int lines;
        private final int[] kinds;
        private final int[] numbers;
        private final int[] begins;
        private final int[] codes;
        // Only of use while a condition is looked at.
        private final int[] stack = new int[STACK];

        /** Takes begins of one more than there are lines: the last one is where the codes end. */
        Law(int lines, int[] kinds, int[] numbers, int[] begins, int[] codes) {
            this.lines = lines;
            this.kinds = kinds;
            this.numbers = numbers;
            this.begins = begins;
            this.codes = codes;
        }

        int total(int kind, int[] facts) {
            int sum = 0;
            for (int line = 0; line < lines; line++) {
                if (kinds[line] == kind && holds(line, facts)) {
                    sum += numbers[line];
                }
            }
            return sum;
        }

        private boolean holds(int line, int[] facts) {
            int top = 0;
            for (int i = begins[line]; i < begins[line + 1]; i++) {
                int code = codes[i];
                if (code < NOT) {
                    if (top >= STACK || code >= A_FACT + FACTS) {
                        return false;
                    }
                    stack[top] = code < A_FACT ? code : facts[code - A_FACT];
                    top++;
                } else if (code == NOT) {
                    if (top < 1) {
                        return false;
                    }
                    stack[top - 1] = 1 - stack[top - 1];
                } else {
                    if (top < 2) {
                        return false;
                    }
                    top--;
                    int a = stack[top - 1];
                    int b = stack[top];
                    stack[top - 1] = code == AND ? a & b
                            : code == OR ? a | b
                            : code == PLUS ? a + b
                            : code == LESS ? (a < b ? 1 : 0) : (a > b ? 1 : 0);
                }
            }
            // Without a condition a line always holds.
            return top == 0 || stack[0] != 0;
        }
    }

    /** Parts the tape into words, numbers and signs, one at a time, and tells the first wrong byte. */
    private static final class Words {
        private static final int BLANK = 32;
        private static final int WORD = 0;
        private static final int NUMBER = 1;
        private static final int SIGN = 2;
        private static final int OVER = 3;
        private static final int MAX_DIGITS = 3;

        private int[] text = new int[0];
        private int length = 0;
        private int begin = 0;
        private int after = 0;
        private int kind = OVER;
        int number = NONE;
        int wrong = NONE;

        void open(int[] tape, int bytes) {
            text = tape;
            length = Math.min(bytes, tape.length);
            after = 0;
            wrong = NONE;
            step();
        }

        /** Goes on to the next thing. */
        void step() {
            begin = after;
            while (begin < length && text[begin] == BLANK) {
                begin++;
            }
            after = begin;
            number = NONE;
            if (begin >= length) {
                kind = OVER;
            } else if (text[begin] >= 'a' && text[begin] <= 'z') {
                kind = WORD;
                while (after < length && text[after] >= 'a' && text[after] <= 'z') {
                    after++;
                }
            } else if (text[begin] >= '0' && text[begin] <= '9') {
                kind = NUMBER;
                int value = 0;
                while (after < length && text[after] >= '0' && text[after] <= '9') {
                    // Of more digits there is no value, however they go on.
                    value = after - begin < MAX_DIGITS && value != NONE ? 10 * value + text[after] - '0' : NONE;
                    after++;
                }
                number = value;
            } else {
                kind = SIGN;
                after++;
            }
        }

        boolean isOver() {
            return kind == OVER;
        }

        boolean isWord(String word) {
            if (kind != WORD || after - begin != word.length()) {
                return false;
            }
            for (int i = 0; i < word.length(); i++) {
                if (text[begin + i] != word.charAt(i)) {
                    return false;
                }
            }
            return true;
        }

        boolean isSign(char sign) {
            return kind == SIGN && text[begin] == sign;
        }

        boolean isNumber(int low, int high) {
            return kind == NUMBER && number != NONE && number >= low && number <= high;
        }

        /** How many letters the name has that stands here; NONE, if none does. */
        int nameSize() {
            if (kind != WORD || after - begin > MAX_LETTERS) {
                return NONE;
            }
            for (int i = begin; i < after; i++) {
                if (text[i] >= 'a' + KINDS_OF_LETTERS) {
                    return NONE;
                }
            }
            return after - begin;
        }

        int nameLetter(int k) {
            return k < 0 || k >= after - begin ? NONE : text[begin + k] - 'a';
        }

        boolean takeWord(String word) {
            if (!isWord(word)) {
                return refuse();
            }
            step();
            return true;
        }

        boolean takeSign(char sign) {
            if (!isSign(sign)) {
                return refuse();
            }
            step();
            return true;
        }

        /** What stands here can't; behind all that is the text's length. */
        boolean refuse() {
            wrong = begin;
            return false;
        }
    }

    /** Reads a text of the province into a world, which is of no use any more if the text is wrong. */
    private static final class ProvinceText {
        private static final int MAX_LINES = 14;
        final Words words = new Words();
        private int taken = NONE;

        boolean read(World draft, int[] tape, int length) {
            words.open(tape, length);
            if (words.isOver()) {
                return true;
            }
            for (int line = 0; line < MAX_LINES; line++) {
                if (!readLine(draft)) {
                    return false;
                }
                if (words.isOver()) {
                    return true;
                }
                if (!words.takeSign(';')) {
                    return false;
                }
            }
            return words.refuse();
        }

        private boolean readLine(World draft) {
            if (words.isWord("field")) {
                return readField(draft);
            }
            if (words.isWord("name")) {
                return readName(draft);
            }
            if (words.isWord("debt")) {
                return readDebt(draft);
            }
            if (words.isWord("flakes")) {
                return readSetting(draft, FLAKES, 1, 9);
            }
            if (words.isWord("fall")) {
                return readSetting(draft, FALL, 0, 100);
            }
            if (words.isWord("hares")) {
                return readSetting(draft, HARES, 0, 100);
            }
            if (words.isWord("wind")) {
                return readSetting(draft, WIND, 0, 100);
            }
            if (words.isWord("day")) {
                return readSetting(draft, DAY, 0, 999);
            }
            return words.refuse();
        }

        private boolean readSetting(World draft, int setting, int low, int high) {
            words.step();
            if (!takeNumber(low, high)) {
                return false;
            }
            draft.settings[setting] = taken;
            return true;
        }

        private boolean readField(World draft) {
            if (draft.fields >= MAX_FIELDS) {
                return words.refuse();
            }
            words.step();
            int field = draft.fields;
            if (!words.takeWord("slope") || !takeNumber(0, MAX_SLOPE)) {
                return false;
            }
            draft.slope[field] = taken;
            if (!words.takeWord("room") || !takeNumber(1, 20)) {
                return false;
            }
            draft.room[field] = taken;
            draft.snow[field] = 0;
            if (words.isWord("snow")) {
                words.step();
                if (!takeNumber(0, MAX_SNOW)) {
                    return false;
                }
                draft.snow[field] = taken;
            }
            draft.fields++;
            return true;
        }

        private boolean readName(World draft) {
            if (draft.people >= MAX_PEOPLE) {
                return words.refuse();
            }
            words.step();
            int person = draft.people;
            int size = words.nameSize();
            if (size == NONE) {
                return words.refuse();
            }
            draft.size[person] = size;
            draft.on[person] = NONE;
            for (int k = 0; k < size; k++) {
                draft.given[MAX_LETTERS * person + k] = words.nameLetter(k);
            }
            draft.people++;
            words.step();
            if (!words.isWord("on")) {
                return true;
            }
            words.step();
            if (!words.isNumber(0, draft.fields - 1)) {
                return words.refuse();
            }
            int field = words.number;
            if (draft.snow[field] <= 0 || draft.roomLeft(field) < size) {
                return words.refuse();
            }
            words.step();
            draft.putOn(person, field, draft.deepOf(person, field));
            return true;
        }

        private boolean readDebt(World draft) {
            if (draft.debts.size >= MAX_DEBTS) {
                return words.refuse();
            }
            words.step();
            if (!takeNumber(0, draft.people - 1)) {
                return false;
            }
            int ower = taken;
            if (words.number == ower) {
                return words.refuse();
            }
            if (!takeNumber(0, draft.people - 1)) {
                return false;
            }
            int other = taken;
            if (!takeNumber(1, MAX_SUM)) {
                return false;
            }
            draft.debts.add(ower, other, taken);
            return true;
        }

        private boolean takeNumber(int low, int high) {
            if (!words.isNumber(low, high)) {
                return words.refuse();
            }
            taken = words.number;
            words.step();
            return true;
        }
    }

    /** Reads a text of the law. */
    private static final class LawText {
        private static final int MAX_LINES = 12;
        private static final int MAX_NUMBER = 40;
        private static final int MAX_WITHIN = 6;
        final Words words = new Words();
        private final int[] kinds = new int[MAX_LINES];
        private final int[] numbers = new int[MAX_LINES];
        private final int[] begins = new int[MAX_LINES + 1];
        private final int[] codes = new int[MAX_TAPE];
        private int size = 0;

        /** The law that the text tells; null, if it is wrong. */
        Law read(int[] tape, int length) {
            words.open(tape, length);
            size = 0;
            if (words.isOver()) {
                return made(0);
            }
            for (int line = 0; line < MAX_LINES; line++) {
                begins[line] = size;
                if (!readHead(line)) {
                    return null;
                }
                if (words.isWord("if")) {
                    words.step();
                    if (!readEither(0)) {
                        return null;
                    }
                }
                if (words.isOver()) {
                    return made(line + 1);
                }
                if (!words.takeSign(';')) {
                    return null;
                }
            }
            words.refuse();
            return null;
        }

        private Law made(int lines) {
            begins[lines] = size;
            return new Law(lines, Arrays.copyOf(kinds, lines), Arrays.copyOf(numbers, lines),
                    Arrays.copyOf(begins, lines + 1), Arrays.copyOf(codes, size));
        }

        private boolean readHead(int line) {
            if (words.isWord("melt")) {
                kinds[line] = Law.MELT;
            } else if (words.isWord("keep")) {
                kinds[line] = Law.KEEP;
            } else if (words.isWord("deep")) {
                kinds[line] = Law.DEEP;
            } else {
                return words.refuse();
            }
            words.step();
            if (!words.isNumber(0, MAX_NUMBER)) {
                return words.refuse();
            }
            numbers[line] = words.number;
            words.step();
            return true;
        }

        private boolean readEither(int within) {
            if (!readBoth(within)) {
                return false;
            }
            for (int more = 0; more < MAX_TAPE && words.isWord("or"); more++) {
                words.step();
                if (!readBoth(within)) {
                    return false;
                }
                put(Law.OR);
            }
            return true;
        }

        private boolean readBoth(int within) {
            if (!readAtom(within)) {
                return false;
            }
            for (int more = 0; more < MAX_TAPE && words.isWord("and"); more++) {
                words.step();
                if (!readAtom(within)) {
                    return false;
                }
                put(Law.AND);
            }
            return true;
        }

        private boolean readAtom(int within) {
            if (words.isWord("not") || words.isSign('(')) {
                return within < MAX_WITHIN ? readWithin(within + 1) : words.refuse();
            }
            int fact = words.isWord("written") ? Law.WRITTEN
                    : words.isWord("whole") ? Law.WHOLE : words.isWord("owes") ? Law.OWES : NONE;
            if (fact != NONE) {
                words.step();
                put(Law.A_FACT + fact);
                return true;
            }
            if (!readSum()) {
                return false;
            }
            boolean isLess = words.isSign('<');
            if (!isLess && !words.isSign('>')) {
                return words.refuse();
            }
            words.step();
            if (!readSum()) {
                return false;
            }
            put(isLess ? Law.LESS : Law.MORE);
            return true;
        }

        /** A not or a ( and what it holds. */
        private boolean readWithin(int within) {
            if (words.isSign('(')) {
                words.step();
                return readEither(within) && words.takeSign(')');
            }
            words.step();
            if (!readAtom(within)) {
                return false;
            }
            put(Law.NOT);
            return true;
        }

        private boolean readSum() {
            for (int parts = 0; parts < MAX_TAPE; parts++) {
                int code = words.isNumber(0, 999) ? words.number : partCode();
                if (code == NONE) {
                    return words.refuse();
                }
                words.step();
                put(code);
                if (parts > 0) {
                    put(Law.PLUS);
                }
                if (!words.isSign('+')) {
                    return true;
                }
                words.step();
            }
            return words.refuse();
        }

        private int partCode() {
            int fact = words.isWord("person") ? Law.PERSON
                    : words.isWord("field") ? Law.FIELD
                    : words.isWord("slope") ? Law.SLOPE
                    : words.isWord("snow") ? Law.SNOW
                    : words.isWord("letters") ? Law.LETTERS
                    : words.isWord("debts") ? Law.DEBTS
                    : words.isWord("day") ? Law.DAY_OF_HUNDRED : NONE;
            return fact == NONE ? NONE : Law.A_FACT + fact;
        }

        private void put(int code) {
            if (size < codes.length) {
                codes[size] = code;
                size++;
            }
        }
    }

    /** How a day goes by. */
    private static final class Days {
        /** A day more by draws: whether it snowed. */
        static boolean pass(World world) {
            boolean snows = draw(world) % 100 < world.settings[FALL];
            if (snows) {
                fallOn(world);
            } else {
                thaw(world);
            }
            letGo(world);
            boolean hareComes = draw(world) % 100 < world.settings[HARES];
            if (hareComes) {
                alter(world);
            }
            boolean blows = draw(world) % 100 < world.settings[WIND];
            if (blows) {
                blowOn(world);
            }
            goOn(world);
            return snows;
        }

        /** A day more on which it thaws, without draws. */
        static void passThawing(World world) {
            thaw(world);
            letGo(world);
            goOn(world);
        }

        private static int draw(World world) {
            world.seed = 1103515245 * world.seed + 12345;
            return world.seed >>> 16 & 32767;
        }

        private static void goOn(World world) {
            world.settings[DAY] = Math.min(MAX_DAY, world.settings[DAY] + 1);
        }

        private static void fallOn(World world) {
            for (int f = 0; f < world.fields; f++) {
                world.snow[f] = Math.min(MAX_SNOW, world.snow[f] + world.settings[FLAKES]);
            }
            for (int p = 0; p < world.people; p++) {
                if (world.on[p] != NONE) {
                    lessen(world, p, 1);
                }
            }
        }

        /** Marks go first: what melts depends on the snow as it was, and on nobody else. */
        private static void thaw(World world) {
            for (int p = 0; p < world.people; p++) {
                int field = world.on[p];
                if (field != NONE) {
                    int loss = world.meltsOf(p, field);
                    lessen(world, p, snowThawed(world, field) == 0 ? MAX_DEPTH : loss);
                }
            }
            for (int f = 0; f < world.fields; f++) {
                world.snow[f] = snowThawed(world, f);
            }
        }

        private static int snowThawed(World world, int field) {
            return Math.max(0, world.snow[field] - world.slope[field] - 1);
        }

        private static void lessen(World world, int p, int n) {
            for (int i = MAX_LETTERS * p; i < MAX_LETTERS * p + world.size[p]; i++) {
                world.depth[i] = Math.max(0, world.depth[i] - n);
            }
        }

        private static void letGo(World world) {
            for (int p = 0; p < world.people; p++) {
                int field = world.on[p];
                if (field != NONE && world.marksLeft(p) == 0) {
                    world.on[p] = NONE;
                    world.log.add(world.settings[DAY], p, ROW_WENT, field);
                }
            }
        }

        private static void alter(World world) {
            int there = Integer.bitCount(world.bitsWritten());
            if (there <= 0) {
                return;
            }
            int person = writtenOne(world, draw(world) % there);
            int drawn = draw(world);
            if (person == NONE || world.size[person] <= 0) {
                return;
            }
            int at = MAX_LETTERS * person + drawn % world.size[person];
            if (world.depth[at] > 0) {
                world.mark[at] = Names.nextLetter(world.mark[at]);
                world.log.add(world.settings[DAY], person, ROW_ALTERED, world.on[person]);
            }
        }

        /** The person that has so many ahead of it of those who are on a field. */
        private static int writtenOne(World world, int ahead) {
            int seen = 0;
            for (int p = 0; p < world.people; p++) {
                if (world.on[p] != NONE) {
                    if (seen == ahead) {
                        return p;
                    }
                    seen++;
                }
            }
            return NONE;
        }

        private static void blowOn(World world) {
            for (int p = 0; p < world.people; p++) {
                int field = world.on[p];
                if (field != NONE) {
                    int next = field + 1 < world.fields ? field + 1 : 0;
                    if (world.snow[next] > 0) {
                        world.on[p] = next;
                    } else {
                        world.on[p] = NONE;
                        world.log.add(world.settings[DAY], p, ROW_BLOWN, field);
                    }
                }
            }
        }
    }

    /** How long names last in thaw, and where; tried out on a spare world. */
    private static final class Lasting {
        private final World spare = new World();
        private final boolean[] stays = new boolean[MAX_PEOPLE * MAX_FIELDS];
        private final int[] stillAble = new int[MAX_PEOPLE + 1];
        private final int[] left = new int[MAX_FIELDS];
        private final int[] tried = new int[MAX_PEOPLE];
        private final int[] best = new int[MAX_PEOPLE];
        private int most = NONE;

        int daysOf(World now, int person) {
            takeAlone(now, person);
            return daysWhole(person);
        }

        int longestField(World now, int person) {
            int field = NONE;
            int longest = NONE;
            for (int f = 0; f < now.fields; f++) {
                if (now.snow[f] > 0) {
                    takeAlone(now, person);
                    spare.putOn(person, f, now.deepOf(person, f));
                    int days = daysWhole(person);
                    // One that is never broken outlasts all others.
                    days = days == NONE ? MAX_AHEAD + 1 : days;
                    if (days > longest) {
                        longest = days;
                        field = f;
                    }
                }
            }
            return field;
        }

        /** Nobody else alters how long one lasts, so that the others may be away. */
        private void takeAlone(World now, int person) {
            spare.copyFrom(now);
            for (int p = 0; p < spare.people; p++) {
                if (p != person) {
                    spare.on[p] = NONE;
                }
            }
        }

        private int daysWhole(int person) {
            for (int days = 0; days <= MAX_AHEAD; days++) {
                if (!spare.isWhole(person)) {
                    return days;
                }
                Days.passThawing(spare);
            }
            return NONE;
        }

        /** Puts all people anew so that the most are whole still in n days. */
        void place(World now, int n) {
            for (int i = 0; i < stays.length; i++) {
                stays[i] = false;
            }
            for (int f = 0; f < now.fields; f++) {
                left[f] = now.room[f];
                if (now.snow[f] > 0) {
                    findStaying(now, f, n);
                }
            }
            stillAble[now.people] = 0;
            for (int p = now.people - 1; p >= 0; p--) {
                stillAble[p] = stillAble[p + 1] + (staysSomewhere(p) ? 1 : 0);
            }
            most = NONE;
            tryPlaces(now, 0, 0);
        }

        /** All stand on one field at once, since nobody alters how long another one lasts. */
        private void findStaying(World now, int field, int n) {
            spare.copyFrom(now);
            for (int p = 0; p < now.people; p++) {
                spare.putOn(p, field, now.deepOf(p, field));
            }
            for (int i = 0; i < n; i++) {
                Days.passThawing(spare);
            }
            for (int p = 0; p < now.people; p++) {
                stays[MAX_FIELDS * p + field] = spare.isWhole(p);
            }
        }

        private boolean staysSomewhere(int p) {
            for (int f = 0; f < MAX_FIELDS; f++) {
                if (stays[MAX_FIELDS * p + f]) {
                    return true;
                }
            }
            return false;
        }

        /** Tries the ways in their order, so that the first one of the most is kept. */
        private void tryPlaces(World now, int person, int whole) {
            if (person >= now.people || person >= MAX_PEOPLE) {
                if (whole > most) {
                    most = whole;
                    System.arraycopy(tried, 0, best, 0, MAX_PEOPLE);
                }
                return;
            }
            if (whole + stillAble[person] <= most) {
                return;
            }
            int size = now.size[person];
            for (int f = 0; f < now.fields; f++) {
                if (now.snow[f] > 0 && left[f] >= size) {
                    left[f] -= size;
                    tried[person] = f;
                    tryPlaces(now, person + 1, whole + (stays[MAX_FIELDS * person + f] ? 1 : 0));
                    left[f] += size;
                }
            }
            tried[person] = NONE;
            tryPlaces(now, person + 1, whole);
        }

        int mostWhole() {
            return most;
        }

        int placeOf(int person) {
            return best[person];
        }
    }

    /** What is asked of the names that people were given. */
    private static final class Names {
        private final int[] steps = new int[(MAX_LETTERS + 1) * (MAX_LETTERS + 1)];
        private final int[] joined = new int[2 * MAX_LETTERS];
        private int joinedSize = 0;
        private final int[] mixes = new int[MAX_PEOPLE];
        private final int[] tried = new int[MAX_PEOPLE];
        private final int[] best = new int[MAX_PEOPLE];
        private int most = NONE;

        /** Whether a tape tells places and letters, two bytes a row. */
        static boolean areRows(int[] tape, int length) {
            if (length > MAX_ROW_BYTES || length > tape.length || length % 2 != 0) {
                return false;
            }
            for (int i = 0; i + 1 < length; i += 2) {
                if (tape[i] >= MAX_LETTERS || tape[i + 1] >= KINDS_OF_LETTERS) {
                    return false;
                }
            }
            return true;
        }

        private static int letterAt(World world, int p, int place) {
            return place < 0 || place >= world.size[p] ? NONE : world.given[MAX_LETTERS * p + place];
        }

        private static int wrongRows(World world, int p, int[] tape, int length) {
            int wrong = 0;
            for (int i = 0; i + 1 < length; i += 2) {
                if (letterAt(world, p, tape[i]) != tape[i + 1]) {
                    wrong++;
                }
            }
            return wrong;
        }

        int fitting(World world, int[] tape, int length) {
            int bits = 0;
            for (int p = 0; p < world.people; p++) {
                if (wrongRows(world, p, tape, length) <= 1) {
                    bits |= 1 << p;
                }
            }
            return bits;
        }

        int likeliest(World world, int[] tape, int length) {
            int one = NONE;
            int fewest = 2;
            for (int p = 0; p < world.people; p++) {
                int wrong = wrongRows(world, p, tape, length);
                if (wrong < fewest) {
                    fewest = wrong;
                    one = p;
                }
            }
            return one;
        }

        int placeToLookAt(World world, int people) {
            if (Integer.bitCount(people) < 2) {
                return NONE;
            }
            int best = NONE;
            int least = MAX_PEOPLE + 1;
            for (int place = 0; place < MAX_LETTERS; place++) {
                int part = greatestPart(world, people, place);
                if (part < least) {
                    least = part;
                    best = place;
                }
            }
            return best;
        }

        private static int greatestPart(World world, int people, int place) {
            int greatest = 0;
            for (int p = 0; p < world.people; p++) {
                int part = 0;
                for (int q = 0; q < world.people; q++) {
                    boolean both = (people >> p & 1) == 1 && (people >> q & 1) == 1;
                    if (both && letterAt(world, p, place) == letterAt(world, q, place)) {
                        part++;
                    }
                }
                greatest = Math.max(greatest, part);
            }
            return greatest;
        }

        int fewestPlaces(World world) {
            int fewest = NONE;
            for (int set = 0; set < 1 << MAX_LETTERS; set++) {
                boolean fewer = fewest == NONE || Integer.bitCount(set) < Integer.bitCount(fewest);
                if (fewer && tellsApart(world, set)) {
                    fewest = set;
                }
            }
            return fewest;
        }

        private static boolean tellsApart(World world, int set) {
            for (int p = 0; p < world.people; p++) {
                for (int q = p + 1; q < world.people; q++) {
                    if ((placesUnlike(world, p, q) & set) == 0) {
                        return false;
                    }
                }
            }
            return true;
        }

        /** The places at which two names are unlike, as bits. */
        private static int placesUnlike(World world, int p, int q) {
            int bits = 0;
            for (int place = 0; place < MAX_LETTERS; place++) {
                if (letterAt(world, p, place) != letterAt(world, q, place)) {
                    bits |= 1 << place;
                }
            }
            return bits;
        }

        static boolean areAlike(World world, int p, int q) {
            return placesUnlike(world, p, q) == 0;
        }

        int changes(World world, int p, int q) {
            int wide = MAX_LETTERS + 1;
            for (int i = 0; i <= world.size[p]; i++) {
                for (int j = 0; j <= world.size[q]; j++) {
                    int least = i == 0 ? j : j == 0 ? i : MAX_LETTERS + MAX_LETTERS;
                    if (i > 0 && j > 0) {
                        int other = letterAt(world, p, i - 1) == letterAt(world, q, j - 1) ? 0 : 1;
                        least = Math.min(least, steps[wide * (i - 1) + j - 1] + other);
                        least = Math.min(least, steps[wide * (i - 1) + j] + 1);
                        least = Math.min(least, steps[wide * i + j - 1] + 1);
                    }
                    steps[wide * i + j] = least;
                }
            }
            return steps[wide * world.size[p] + world.size[q]];
        }

        /** What a hare makes of a letter. */
        static int nextLetter(int letter) {
            return (letter + 1) % KINDS_OF_LETTERS;
        }

        static boolean areMixed(World world, int p, int q) {
            if (world.size[p] != world.size[q] || Integer.bitCount(placesUnlike(world, p, q)) != 1) {
                return false;
            }
            for (int place = 0; place < world.size[p]; place++) {
                int one = letterAt(world, p, place);
                int other = letterAt(world, q, place);
                if (nextLetter(one) == other || nextLetter(other) == one) {
                    return true;
                }
            }
            return false;
        }

        int mostSafe(World world) {
            for (int p = 0; p < world.people; p++) {
                mixes[p] = 0;
                for (int q = 0; q < world.people; q++) {
                    if (areMixed(world, p, q)) {
                        mixes[p] |= 1 << q;
                    }
                }
            }
            int best = 0;
            for (int set = 1; set < 1 << world.people; set++) {
                if (Integer.bitCount(set) > Integer.bitCount(best) && isSafe(set)) {
                    best = set;
                }
            }
            return best;
        }

        private boolean isSafe(int set) {
            for (int p = 0; p < MAX_PEOPLE; p++) {
                if ((set >> p & 1) == 1 && (mixes[p] & set) != 0) {
                    return false;
                }
            }
            return true;
        }

        /** Makes the shortest row in which both names are runs. */
        void runTogether(World world, int p, int q) {
            joinedSize = 0;
            if (isRun(world, q, p)) {
                append(world, p, 0);
            } else if (isRun(world, p, q)) {
                append(world, q, 0);
            } else {
                int overlap = overlapOf(world, p, q);
                int turned = overlapOf(world, q, p);
                append(world, turned > overlap ? q : p, 0);
                append(world, turned > overlap ? p : q, Math.max(overlap, turned));
            }
        }

        private void append(World world, int p, int begin) {
            for (int k = begin; k < world.size[p] && joinedSize < joined.length; k++) {
                joined[joinedSize] = letterAt(world, p, k);
                joinedSize++;
            }
        }

        /** Whether the name of p is a run of the name of q. */
        private static boolean isRun(World world, int p, int q) {
            for (int begin = 0; begin + world.size[p] <= world.size[q]; begin++) {
                if (agree(world, q, begin, p, world.size[p])) {
                    return true;
                }
            }
            return false;
        }

        /** How many letters at the end of the name of p are the begin of the name of q. */
        private static int overlapOf(World world, int p, int q) {
            for (int n = Math.min(world.size[p], world.size[q]); n > 0; n--) {
                if (agree(world, p, world.size[p] - n, q, n)) {
                    return n;
                }
            }
            return 0;
        }

        /** Whether n letters of p from a place on are the first n ones of q. */
        private static boolean agree(World world, int p, int begin, int q, int n) {
            for (int k = 0; k < n; k++) {
                if (letterAt(world, p, begin + k) != letterAt(world, q, k)) {
                    return false;
                }
            }
            return true;
        }

        int joinedSize() {
            return joinedSize;
        }

        int joinedLetter(int k) {
            return k < 0 || k >= joinedSize ? NONE : joined[k];
        }

        /** Puts people two by two so that they share the most letters. */
        void pairAll(World world) {
            Arrays.fill(tried, NONE);
            most = NONE;
            tryPairs(world, 0, 0);
        }

        /** Tries the ways in their order, so that the first one of the most is kept. */
        private void tryPairs(World world, int person, int shared) {
            if (person >= world.people || person >= MAX_PEOPLE) {
                if (shared > most) {
                    most = shared;
                    System.arraycopy(tried, 0, best, 0, MAX_PEOPLE);
                }
                return;
            }
            tryPairs(world, person + 1, shared);
            if (tried[person] != NONE) {
                return;
            }
            for (int q = person + 1; q < world.people; q++) {
                if (tried[q] == NONE) {
                    tried[person] = q;
                    tried[q] = person;
                    int both = Integer.bitCount(world.lettersOf(person) & world.lettersOf(q));
                    tryPairs(world, person + 1, shared + both);
                    tried[person] = NONE;
                    tried[q] = NONE;
                }
            }
        }

        int sharedLetters() {
            return most;
        }

        int partnerOf(int person) {
            return best[person];
        }
    }

    /** Letters struck out by turns: each run is a heap of its own, of one or two side by side (Kayles). */
    private static final class Strikes {
        private static final int[] WORTH = {0, 1, 2, 3, 1, 4, 3};

        private static int worthOf(int letters) {
            return letters < 0 || letters >= WORTH.length ? 0 : WORTH[letters];
        }

        static int worthOfAll(World world) {
            int worth = 0;
            for (int p = 0; p < world.people; p++) {
                worth ^= worthOf(world.marksLeft(p));
            }
            return worth;
        }

        static int winningStrike(World world) {
            int all = worthOfAll(world);
            for (int p = 0; p < world.people; p++) {
                int letters = world.marksLeft(p);
                int others = all ^ worthOf(letters);
                for (int place = 0; place < letters; place++) {
                    for (int n = 1; n <= 2 && place + n <= letters; n++) {
                        if ((worthOf(place) ^ worthOf(letters - place - n)) == others) {
                            return 100 * p + 10 * place + n;
                        }
                    }
                }
            }
            return NONE;
        }
    }
}
