import java.util.NoSuchElementException;

/**
 * Caves under a hill, the voices and folk in them, and what can be asked and done there.
 * The document numbers what each call promises; all rows are made once, with the object.
 */
public final class WellVoice {

    public static final int NONE = -1;

    /** Answers that there is none, where the call itself is not refused. */
    private static final int NO = -2;

    /** Stands for "no dry ways": more than any row of ways is long, and safe to add to. */
    private static final int FAR_OFF = 1000000;

    private static final int TAPE = 900;
    private static final int CAVES = 8;
    private static final int WAYS = 10;
    private static final int WETS = 6;
    private static final int VOICES = 3;
    private static final int FOLK = 4;
    private static final int ECHOES = 4;
    private static final int UNSURES = 4;
    private static final int TALKS = 5;
    private static final int PAST = 16;
    private static final int IMAGES = 3;
    private static final int MOST_YEARS = 999;
    private static final int YEARS_AHEAD = 60;

    /** A voice has a cave and a cave it came from, or none: no more states than these. */
    private static final int STATES = CAVES * (CAVES + 1);

    private static final int IDLE = 0;
    private static final int SHY = 1;
    private static final int BOLD = 2;
    private static final int ROVER = 3;

    /** The sorts of LINE, in the order in which size() tells how many there are. */
    private static final int LINE_WELL = 0;
    private static final int LINE_CAVE = 1;
    private static final int LINE_WAY = 2;
    private static final int LINE_VOICE = 3;
    private static final int LINE_FOLK = 4;
    private static final int LINE_ECHO = 5;
    private static final int LINE_UNSURE = 6;
    private static final int LINE_TALK = 7;
    private static final int LINES = 8;
    private static final int[] ROOM = {1, 8, 10, 3, 4, 4, 4, 5};

    /** The words of LINES, which are no NAMES, stand ahead of the NAMES told. */
    private static final int NAMES = LINES + CAVES + VOICES + FOLK;

    private static final int FAULT_FORM = 1;
    private static final int FAULT_NAME = 2;
    private static final int FAULT_AGAIN = 3;
    private static final int FAULT_BOUNDS = 4;
    private static final int FAULT_MANY = 5;
    private static final int FAULT_LACKS = 6;
    private static final int FAULT_NO_WAY = 7;

    private static final int NO_SUCH = 1;
    private static final int BAD_NUMBER = 2;
    private static final int NO_ROOM = 3;
    private static final int FAULTY = 4;
    private static final int NOT_SO = 5;
    private static final int NOTHING_LEFT = 6;

    private final byte[] tape = new byte[TAPE];
    private int tapeSize;
    private final Told told = new Told();
    private final Reader reader = new Reader(tape);
    private final State now = new State();
    private final Land nowLand = new Land(told);
    private final Land firstLand = new Land(told);
    private final Land trialLand = new Land(told);
    private final Going going = new Going(told, now, nowLand);
    private final Guess guess = new Guess(told, firstLand);
    private final Nets net = new Nets(told, trialLand);
    private final Hunt hunt = new Hunt(told, nowLand);
    private final Drought drought = new Drought(told, now, trialLand);
    private final Kept kept = new Kept();
    private int lastTrouble;

    public WellVoice() {
        // No WELL: nothing is told, so that every number is one of none such.
    }

    // ---- the well

    public int feed(int a, int b, int c, int d, int e) {
        if (tapeSize + 20 > TAPE) {
            return NONE;
        }
        putBytes(a);
        putBytes(b);
        putBytes(c);
        putBytes(d);
        putBytes(e);
        return tapeSize;
    }

    public int well(int n) {
        if (n < 0 || n > tapeSize) {
            return refuse(BAD_NUMBER);
        }
        tapeSize = 0;
        if (!reader.read(n)) {
            return refuse(FAULTY);
        }
        told.take(reader.draft);
        now.begin(told);
        firstLand.lay(told.wet);
        nowLand.lay(now.wet);
        kept.empty();
        return allow(told.count[LINE_CAVE]);
    }

    public int fault() {
        return reader.fault;
    }

    public int where() {
        return lastTrouble == FAULTY ? reader.place : NONE;
    }

    // ---- now

    public int cave(int c, int what) {
        if (!isCave(c) || what < 0 || what > 4) {
            return refuse(NO_SUCH);
        }
        switch (what) {
            case 0:
                return allow(hasBit(told.mouths, c) ? 1 : 0);
            case 1:
                return allow(nowLand.near[c]);
            case 2:
                return allow(bitsIn(now.voiceCave, told.count[LINE_VOICE], c));
            case 3:
                return allow(bitsIn(now.folkCave, told.count[LINE_FOLK], c));
            default:
                return allow(told.waysAt(c));
        }
    }

    public int way(int k, int what) {
        if (!isWay(k) || what < 0 || what > 3) {
            return refuse(NO_SUCH);
        }
        switch (what) {
            case 0:
                return allow(told.low[k]);
            case 1:
                return allow(told.high[k]);
            case 2:
                return allow(told.length[k]);
            default:
                return allow(hasBit(now.wet, k) ? 1 : 0);
        }
    }

    public int voice(int v, int what) {
        if (!isVoice(v) || what < 0 || what > 2) {
            return refuse(NO_SUCH);
        }
        switch (what) {
            case 0:
                return allow(told.kind[v]);
            case 1:
                return allow(now.voiceCave[v]);
            default:
                return allow(now.voiceFrom[v]);
        }
    }

    public int folk(int f) {
        return isFolk(f) ? allow(now.folkCave[f]) : refuse(NO_SUCH);
    }

    public int far(int c, int to) {
        if (!isCave(c) || !isCave(to)) {
            return refuse(NO_SUCH);
        }
        return allow(orNo(nowLand.span(c, to)));
    }

    public int next(int c, int to) {
        if (!isCave(c) || !isCave(to)) {
            return refuse(NO_SUCH);
        }
        return allow(nowLand.firstStep(c, to));
    }

    public int hearers(int v) {
        return isVoice(v) ? allow(hearersOf(now.voiceCave[v])) : refuse(NO_SUCH);
    }

    public int heardFrom(int c) {
        if (!isCave(c)) {
            return refuse(NO_SUCH);
        }
        int bits = 0;
        for (int x = 0; x < told.count[LINE_CAVE]; x++) {
            if (nowLand.span(c, x) <= told.loud) {
                bits |= 1 << x;
            }
        }
        return allow(bits);
    }

    public int parts() {
        return hasWell() ? allow(nowLand.countParts()) : refuse(NO_SUCH);
    }

    public int farthest(int c) {
        return isCave(c) ? allow(nowLand.lastFrom(c)) : refuse(NO_SUCH);
    }

    public int neck() {
        return hasWell() ? allow(nowLand.worstLoss()) : refuse(NO_SUCH);
    }

    // ---- years

    public int after(int v, int n) {
        if (!isVoice(v)) {
            return refuse(NO_SUCH);
        }
        if (n < 0 || n > YEARS_AHEAD) {
            return refuse(BAD_NUMBER);
        }
        going.follow(v, n, going.trail);
        return allow(going.trail[n]);
    }

    public int comes(int v, int c) {
        if (!isVoice(v) || !isCave(c)) {
            return refuse(NO_SUCH);
        }
        going.follow(v, YEARS_AHEAD, going.trail);
        for (int n = 0; n <= YEARS_AHEAD; n++) {
            if (going.trail[n] == c) {
                return allow(n);
            }
        }
        return allow(NO);
    }

    public int meets(int v, int w) {
        if (!isVoice(v) || !isVoice(w) || v == w) {
            return refuse(NO_SUCH);
        }
        going.follow(v, YEARS_AHEAD, going.trail);
        going.follow(w, YEARS_AHEAD, going.otherTrail);
        for (int n = 0; n <= YEARS_AHEAD; n++) {
            if (going.trail[n] == going.otherTrail[n]) {
                return allow(n);
            }
        }
        return allow(NO);
    }

    public int silentIn(int v) {
        if (!isVoice(v)) {
            return refuse(NO_SUCH);
        }
        going.follow(v, YEARS_AHEAD, going.trail);
        for (int n = 0; n <= YEARS_AHEAD; n++) {
            if (hearersOf(going.trail[n]) == 0) {
                return allow(n);
            }
        }
        return allow(NO);
    }

    public int settles(int v) {
        return isVoice(v) ? allow(going.roundStart(v)) : refuse(NO_SUCH);
    }

    public int round(int v) {
        return isVoice(v) ? allow(going.roundLength(v)) : refuse(NO_SUCH);
    }

    // ---- calls

    public int called(int v, int c) {
        if (!isVoice(v) || !isCave(c)) {
            return refuse(NO_SUCH);
        }
        return allow(going.callStep(told.kind[v], now.voiceCave[v], c));
    }

    public int bring(int v, int c) {
        if (!isVoice(v) || !isCave(c)) {
            return refuse(NO_SUCH);
        }
        return allow(orNo(going.callsNeeded(v, c)));
    }

    public int bringAt(int v, int c, int i) {
        if (!isVoice(v) || !isCave(c)) {
            return refuse(NO_SUCH);
        }
        int calls = going.callsNeeded(v, c);
        if (calls >= FAR_OFF || i < 0 || i >= calls) {
            return refuse(NO_SUCH);
        }
        return allow(going.callAt(v, i));
    }

    public int reach(int v) {
        return isVoice(v) ? allow(going.broughtTo(v)) : refuse(NO_SUCH);
    }

    // ---- where it is

    public int echo(int v, int c) {
        if (!isVoice(v) || !isCave(c)) {
            return refuse(NO_SUCH);
        }
        return allow(orNo(2 * nowLand.span(c, now.voiceCave[v])));
    }

    public int fits() {
        return hasWell() ? allow(guess.fitting()) : refuse(NO_SUCH);
    }

    public long odds(int c, boolean lower) {
        if (!isCave(c)) {
            return refuse(NO_SUCH);
        }
        lastTrouble = 0;
        return inLowestTerms(guess.weightOf(c), guess.allWeights(), lower);
    }

    public int likeliest() {
        return hasWell() ? allow(guess.heaviest()) : refuse(NO_SUCH);
    }

    public int stone() {
        return hasWell() ? allow(guess.bestStone()) : refuse(NO_SUCH);
    }

    public int stoneLeaves() {
        if (!hasWell()) {
            return refuse(NO_SUCH);
        }
        int at = guess.bestStone();
        return allow(at == NO ? NO : guess.leftBy(at, guess.fitting()));
    }

    public int judge() {
        return hasWell() ? allow(guess.firstWrongEcho()) : refuse(NO_SUCH);
    }

    // ---- unsure ways

    public int nets() {
        return hasWell() ? allow(Integer.bitCount(net.fittingSets())) : refuse(NO_SUCH);
    }

    public int netAt(int i) {
        int set = hasWell() ? net.setAt(i) : NONE;
        return set == NONE ? refuse(NO_SUCH) : allow(set);
    }

    public int dryBy(int k) {
        if (k < 0 || k >= told.count[LINE_UNSURE]) {
            return refuse(NO_SUCH);
        }
        return allow(net.setsWithDry(k));
    }

    public int liar() {
        return hasWell() ? allow(net.firstUntrueTalk(0)) : refuse(NO_SUCH);
    }

    // ---- chase, rests

    public int chase(int owner, int voice) {
        if (!isCave(owner) || !isCave(voice)) {
            return refuse(NO_SUCH);
        }
        return allow(orNo(hunt.goingsNeeded(owner, voice)));
    }

    public int chaseBy(int owner, int voice) {
        if (!isCave(owner) || !isCave(voice)) {
            return refuse(NO_SUCH);
        }
        return allow(hunt.firstGoing(owner, voice));
    }

    public int answers(int fear, boolean priest, boolean boy, boolean ofBoy) {
        if (refusesFear(fear)) {
            return -100;
        }
        return ofBoy ? gain(fear, boy, priest) : gain(fear, priest, boy);
    }

    public int rests(int fear) {
        if (refusesFear(fear)) {
            return NONE;
        }
        int found = 0;
        for (int pair = 0; pair < 4; pair++) {
            if (isRest(fear, pair >= 2, pair % 2 == 1)) {
                found++;
            }
        }
        return found;
    }

    public int rest(int fear) {
        if (refusesFear(fear)) {
            return NONE;
        }
        for (int pair = 0; pair < 4; pair++) {
            if (isRest(fear, pair >= 2, pair % 2 == 1)) {
                return pair / 2 * 10 + pair % 2;
            }
        }
        return NO;
    }

    // ---- droughts

    public long within(int c, int to, int much, boolean lower) {
        if (!isCave(c) || !isCave(to)) {
            return refuse(NO_SUCH);
        }
        if (much < 0 || much > 200) {
            return refuse(BAD_NUMBER);
        }
        lastTrouble = 0;
        return inLowestTerms(drought.chanceWithin(c, to, much), drought.allChances(), lower);
    }

    public long mean(int c, boolean lower) {
        if (!isCave(c)) {
            return refuse(NO_SUCH);
        }
        lastTrouble = 0;
        return inLowestTerms(drought.cavesByChance(c), drought.allChances(), lower);
    }

    public int farBy(int c, int to, int seed) {
        if (!isCave(c) || !isCave(to)) {
            return refuse(NO_SUCH);
        }
        if (!isSeed(seed)) {
            return refuse(BAD_NUMBER);
        }
        drought.seed = seed;
        return allow(orNo(drought.spanByDraws(c, to)));
    }

    public int open(int c, int to, int seed, int n) {
        if (!isCave(c) || !isCave(to)) {
            return refuse(NO_SUCH);
        }
        if (!isSeed(seed) || n < 0 || n > 60) {
            return refuse(BAD_NUMBER);
        }
        drought.seed = seed;
        int found = 0;
        for (int i = 0; i < n; i++) {
            if (drought.spanByDraws(c, to) < FAR_OFF) {
                found++;
            }
        }
        return allow(found);
    }

    // ---- acts

    public int year() {
        if (!hasWell()) {
            return refuse(NO_SUCH);
        }
        if (now.years >= MOST_YEARS) {
            return refuse(NO_ROOM);
        }
        kept.keep(now);
        int gone = 0;
        for (int v = 0; v < told.count[LINE_VOICE]; v++) {
            if (now.moveVoice(v, going.yearStep(told.kind[v], now.voiceCave[v], now.voiceFrom[v]))) {
                gone |= 1 << v;
            }
        }
        now.years++;
        return allow(gone);
    }

    public int call(int c) {
        if (!isCave(c)) {
            return refuse(NO_SUCH);
        }
        kept.keep(now);
        int gone = 0;
        for (int v = 0; v < told.count[LINE_VOICE]; v++) {
            if (now.moveVoice(v, going.callStep(told.kind[v], now.voiceCave[v], c))) {
                gone |= 1 << v;
            }
        }
        return allow(gone);
    }

    public boolean walk(int f, int c) {
        if (!isFolk(f) || !isCave(c)) {
            return refuseAct(NO_SUCH);
        }
        if (!hasBit(nowLand.near[now.folkCave[f]], c)) {
            return refuseAct(NOT_SO);
        }
        kept.keep(now);
        now.folkCave[f] = c;
        return allowAct();
    }

    public boolean dig(int k) {
        if (!isWay(k)) {
            return refuseAct(NO_SUCH);
        }
        if (!hasBit(now.wet, k)) {
            return refuseAct(NOT_SO);
        }
        changeWays(now.wet & ~(1 << k));
        return allowAct();
    }

    public boolean flood(int k) {
        if (!isWay(k)) {
            return refuseAct(NO_SUCH);
        }
        if (hasBit(now.wet, k)) {
            return refuseAct(NOT_SO);
        }
        if (Integer.bitCount(now.wet) >= WETS) {
            return refuseAct(NO_ROOM);
        }
        changeWays(now.wet | 1 << k);
        return allowAct();
    }

    public boolean undo() {
        if (kept.pastSize == 0) {
            return refuseAct(NOTHING_LEFT);
        }
        kept.giveBack(now);
        nowLand.lay(now.wet);
        return allowAct();
    }

    public int image() {
        if (!hasWell()) {
            return refuse(NO_SUCH);
        }
        if (kept.imageSize >= IMAGES) {
            return refuse(NO_ROOM);
        }
        return allow(kept.addImage(now));
    }

    public boolean back(int image) {
        if (image < 0 || image >= kept.imageSize) {
            return refuseAct(NO_SUCH);
        }
        kept.goBack(now, image);
        nowLand.lay(now.wet);
        return allowAct();
    }

    // ---- what is told

    public int led(int i) throws NoSuchElementException {
        int unheard = 0;
        for (int v = 0; v < told.count[LINE_VOICE]; v++) {
            if (hearersOf(now.voiceCave[v]) == 0) {
                if (unheard == i) {
                    return v;
                }
                unheard++;
            }
        }
        throw new NoSuchElementException();
    }

    public int size(int what) {
        switch (what) {
            case 0:
                return told.loud;
            case 1:
                return told.errs;
            case 2:
                return told.drought;
            case 10:
                return now.years;
            case 11:
                return kept.pastSize;
            case 12:
                return kept.imageSize;
            case 13:
                return tapeSize;
            default:
                return what >= 3 && what <= 9 ? told.count[what - 3 + LINE_CAVE] : NONE;
        }
    }

    public int trouble() {
        return lastTrouble;
    }

    // ---- what the calls share

    private int refuse(int why) {
        lastTrouble = why;
        return NONE;
    }

    private int allow(int answer) {
        lastTrouble = 0;
        return answer;
    }

    private boolean refuseAct(int why) {
        lastTrouble = why;
        return false;
    }

    private boolean allowAct() {
        lastTrouble = 0;
        return true;
    }

    private boolean refusesFear(int fear) {
        if (!hasWell()) {
            lastTrouble = NO_SUCH;
        } else if (fear < 0 || fear > 9) {
            lastTrouble = BAD_NUMBER;
        } else {
            lastTrouble = 0;
        }
        return lastTrouble != 0;
    }

    private boolean hasWell() {
        return told.count[LINE_WELL] > 0;
    }

    private boolean isCave(int c) {
        return c >= 0 && c < told.count[LINE_CAVE];
    }

    private boolean isWay(int k) {
        return k >= 0 && k < told.count[LINE_WAY];
    }

    private boolean isVoice(int v) {
        return v >= 0 && v < told.count[LINE_VOICE];
    }

    private boolean isFolk(int f) {
        return f >= 0 && f < told.count[LINE_FOLK];
    }

    private static boolean isSeed(int seed) {
        return seed >= 0 && seed <= 65536;
    }

    private static boolean hasBit(int bits, int i) {
        return (bits >> i & 1) == 1;
    }

    private static int orNo(int span) {
        return span >= FAR_OFF ? NO : span;
    }

    private void putBytes(int number) {
        for (int shift = 24; shift >= 0; shift -= 8) {
            tape[tapeSize] = (byte) (number >> shift);
            tapeSize++;
        }
    }

    private static int bitsIn(int[] caves, int size, int c) {
        int bits = 0;
        for (int x = 0; x < size && x < caves.length; x++) {
            if (caves[x] == c) {
                bits |= 1 << x;
            }
        }
        return bits;
    }

    private int hearersOf(int c) {
        int bits = 0;
        for (int f = 0; f < told.count[LINE_FOLK]; f++) {
            if (nowLand.span(now.folkCave[f], c) <= told.loud) {
                bits |= 1 << f;
            }
        }
        return bits;
    }

    private void changeWays(int wet) {
        kept.keep(now);
        now.wet = wet;
        nowLand.lay(wet);
    }

    private static int gain(int fear, boolean own, boolean other) {
        if (own) {
            return other ? 2 : 3;
        }
        return other ? -fear : 1;
    }

    private static boolean isRest(int fear, boolean priest, boolean boy) {
        return gain(fear, !priest, boy) <= gain(fear, priest, boy)
            && gain(fear, !boy, priest) <= gain(fear, boy, priest);
    }

    private static long inLowestTerms(long upper, long lower, boolean wantsLower) {
        if (upper <= 0 || lower <= 0) {
            return wantsLower ? 1 : 0;
        }
        long divisor = upper;
        long left = lower;
        // Euclid needs fewer than 100 rounds for any two longs.
        for (int i = 0; i < 100 && left != 0; i++) {
            long rest = divisor % left;
            divisor = left;
            left = rest;
        }
        if (divisor == 0) {
            return NONE;
        }
        return (wantsLower ? lower : upper) / divisor;
    }

    /** The WELL as it was told; no act changes it. */
    private static final class Told {
        int loud;
        int errs;
        int drought;
        final int[] count = new int[LINES];
        int mouths;
        final int[] low = new int[WAYS];
        final int[] high = new int[WAYS];
        final int[] length = new int[WAYS];
        /** By two caves, in both orders: the number of the way between them and 1; 0 none. */
        final int[] between = new int[CAVES * CAVES];
        int wet;
        final int[] kind = new int[VOICES];
        final int[] voiceCave = new int[VOICES];
        final int[] folkCave = new int[FOLK];
        final int[] echoCave = new int[ECHOES];
        final int[] echoAfter = new int[ECHOES];
        final int[] unsureWay = new int[UNSURES];
        final int[] talkOne = new int[TALKS];
        final int[] talkOther = new int[TALKS];
        int heard;

        void empty() {
            for (int i = 0; i < LINES; i++) {
                count[i] = 0;
            }
            for (int i = 0; i < CAVES * CAVES; i++) {
                between[i] = 0;
            }
            mouths = 0;
            wet = 0;
            heard = 0;
        }

        void take(Told other) {
            loud = other.loud;
            errs = other.errs;
            drought = other.drought;
            mouths = other.mouths;
            wet = other.wet;
            heard = other.heard;
            System.arraycopy(other.count, 0, count, 0, LINES);
            System.arraycopy(other.low, 0, low, 0, WAYS);
            System.arraycopy(other.high, 0, high, 0, WAYS);
            System.arraycopy(other.length, 0, length, 0, WAYS);
            System.arraycopy(other.between, 0, between, 0, CAVES * CAVES);
            System.arraycopy(other.kind, 0, kind, 0, VOICES);
            System.arraycopy(other.voiceCave, 0, voiceCave, 0, VOICES);
            System.arraycopy(other.folkCave, 0, folkCave, 0, FOLK);
            System.arraycopy(other.echoCave, 0, echoCave, 0, ECHOES);
            System.arraycopy(other.echoAfter, 0, echoAfter, 0, ECHOES);
            System.arraycopy(other.unsureWay, 0, unsureWay, 0, UNSURES);
            System.arraycopy(other.talkOne, 0, talkOne, 0, TALKS);
            System.arraycopy(other.talkOther, 0, talkOther, 0, TALKS);
        }

        void addWay(int one, int other, int howLong, boolean isWet) {
            int k = count[LINE_WAY];
            low[k] = Math.min(one, other);
            high[k] = Math.max(one, other);
            length[k] = howLong;
            between[one * CAVES + other] = k + 1;
            between[other * CAVES + one] = k + 1;
            if (isWet) {
                wet |= 1 << k;
            }
        }

        int wayBetween(int one, int other) {
            return between[one * CAVES + other] - 1;
        }

        int waysAt(int c) {
            int found = 0;
            for (int k = 0; k < count[LINE_WAY]; k++) {
                if (low[k] == c || high[k] == c) {
                    found++;
                }
            }
            return found;
        }

        boolean isUnsure(int k) {
            for (int i = 0; i < count[LINE_UNSURE]; i++) {
                if (unsureWay[i] == k) {
                    return true;
                }
            }
            return false;
        }

        boolean hasEcho(int c) {
            for (int i = 0; i < count[LINE_ECHO]; i++) {
                if (echoCave[i] == c) {
                    return true;
                }
            }
            return false;
        }
    }

    /** The TOKENS of the text, one at a time. */
    private static final class Tokens {
        static final int END = 0;
        static final int WORD = 1;
        static final int WHOLE = 2;
        static final int MARK = 3;
        static final int STRANGE = 4;

        private final byte[] bytes;
        private int end;
        private int stop;
        int place;
        int sort;

        Tokens(byte[] bytes) {
            this.bytes = bytes;
        }

        void begin(int size) {
            end = Math.min(size, bytes.length);
            stop = 0;
            advance();
        }

        void advance() {
            place = stop;
            while (place < end && bytes[place] == ' ') {
                place++;
            }
            stop = place;
            if (place >= end) {
                sort = END;
            } else if (isLetter(bytes[place])) {
                while (stop < end && isLetter(bytes[stop])) {
                    stop++;
                }
                sort = stop - place <= 8 ? WORD : STRANGE;
            } else if (isDigit(bytes[place])) {
                while (stop < end && isDigit(bytes[stop])) {
                    stop++;
                }
                sort = stop - place <= 3 ? WHOLE : STRANGE;
            } else {
                sort = bytes[place] == ';' ? MARK : STRANGE;
                stop++;
            }
        }

        boolean isWord(String word) {
            if (sort != WORD || stop - place != word.length()) {
                return false;
            }
            for (int i = 0; i < word.length(); i++) {
                if (bytes[place + i] != word.charAt(i)) {
                    return false;
                }
            }
            return true;
        }

        /** A WORD's letters as digits, so that two WORDS are alike just if these numbers are. */
        long wordNumber() {
            long number = 0;
            for (int i = place; i < stop; i++) {
                number = number * 32 + (bytes[i] - 'a' + 1);
            }
            return number;
        }

        static long numberOf(String word) {
            long number = 0;
            for (int i = 0; i < word.length(); i++) {
                number = number * 32 + (word.charAt(i) - 'a' + 1);
            }
            return number;
        }

        int wholeNumber() {
            int number = 0;
            for (int i = place; i < stop; i++) {
                number = number * 10 + (bytes[i] - '0');
            }
            return number;
        }

        private static boolean isLetter(int b) {
            return b >= 'a' && b <= 'z';
        }

        private static boolean isDigit(int b) {
            return b >= '0' && b <= '9';
        }
    }

    /**
     * Reads a text into a draft, so that the WELL stays if there is a FAULT. What is named
     * ..Here looks at the token and leaves it there: a later FAULT may have its place.
     */
    private static final class Reader {
        final Told draft = new Told();
        int fault;
        int place;
        private final Tokens tokens;
        private final long[] nameWord = new long[NAMES];
        private final int[] nameSort = new int[NAMES];
        private final int[] nameNumber = new int[NAMES];
        private int names;

        Reader(byte[] bytes) {
            tokens = new Tokens(bytes);
            for (int sort = 0; sort < LINES; sort++) {
                nameWord[sort] = Tokens.numberOf(lineWord(sort));
                nameSort[sort] = NONE;
            }
        }

        boolean read(int size) {
            draft.empty();
            names = LINES;
            fault = 0;
            place = NONE;
            tokens.begin(size);
            boolean more = true;
            for (int line = 0; line < TAPE && more; line++) {
                int sort = lineHere();
                more = beginsLine(sort) && readRest(sort) && endsLine(sort);
            }
            return fault == 0;
        }

        private boolean beginsLine(int sort) {
            if (sort == NONE) {
                return fails(FAULT_FORM);
            }
            if (sort == LINE_WELL && draft.count[LINE_WELL] > 0) {
                return fails(FAULT_AGAIN);
            }
            if (draft.count[sort] >= ROOM[sort]) {
                return fails(FAULT_MANY);
            }
            if (sort != LINE_WELL && draft.count[LINE_WELL] == 0) {
                return fails(FAULT_LACKS);
            }
            tokens.advance();
            return true;
        }

        /** True if another LINE must follow. */
        private boolean endsLine(int sort) {
            draft.count[sort]++;
            if (tokens.sort == Tokens.END) {
                return draft.count[LINE_CAVE] == 0 && fails(FAULT_LACKS);
            }
            if (tokens.sort != Tokens.MARK) {
                return fails(FAULT_FORM);
            }
            tokens.advance();
            return true;
        }

        private boolean readRest(int sort) {
            switch (sort) {
                case LINE_WELL:
                    return readWell();
                case LINE_CAVE:
                    return readCave();
                case LINE_WAY:
                    return readWay();
                case LINE_VOICE:
                    return readVoice();
                case LINE_FOLK:
                    return readFolk();
                case LINE_ECHO:
                    return readEcho();
                case LINE_UNSURE:
                    return readUnsure();
                default:
                    return readTalk();
            }
        }

        private boolean readWell() {
            draft.loud = readNumber("loud", 0, 99);
            if (draft.loud == NONE) {
                return false;
            }
            draft.errs = readNumber("errs", 0, 100);
            if (draft.errs == NONE) {
                return false;
            }
            draft.drought = readNumber("drought", 0, 100);
            return draft.drought != NONE;
        }

        private boolean readCave() {
            if (!readNewName(LINE_CAVE)) {
                return false;
            }
            if (tokens.isWord("mouth")) {
                draft.mouths |= 1 << draft.count[LINE_CAVE];
                return readWord("mouth");
            }
            return readWord("deep");
        }

        private boolean readWay() {
            int one = readFirstCave();
            int other = one == NONE ? NONE : caveHere();
            if (other == NONE) {
                return false;
            }
            if (other == one || draft.wayBetween(one, other) != NONE) {
                return fails(FAULT_AGAIN);
            }
            tokens.advance();
            int length = readNumber("long", 1, 20);
            if (length == NONE) {
                return false;
            }
            boolean wet = tokens.isWord("wet");
            if (wet && Integer.bitCount(draft.wet) >= WETS) {
                return fails(FAULT_MANY);
            }
            draft.addWay(one, other, length, wet);
            return readWord(wet ? "wet" : "dry");
        }

        private boolean readVoice() {
            int v = draft.count[LINE_VOICE];
            if (!readNewName(LINE_VOICE)) {
                return false;
            }
            draft.kind[v] = kindHere();
            if (draft.kind[v] == NONE) {
                return fails(FAULT_FORM);
            }
            tokens.advance();
            draft.voiceCave[v] = readWord("at") ? readFirstCave() : NONE;
            return draft.voiceCave[v] != NONE;
        }

        private boolean readFolk() {
            int f = draft.count[LINE_FOLK];
            if (!readNewName(LINE_FOLK)) {
                return false;
            }
            draft.folkCave[f] = readWord("at") ? readFirstCave() : NONE;
            return draft.folkCave[f] != NONE;
        }

        private boolean readEcho() {
            int i = draft.count[LINE_ECHO];
            int c = caveHere();
            if (c == NONE) {
                return false;
            }
            if (draft.hasEcho(c)) {
                return fails(FAULT_AGAIN);
            }
            tokens.advance();
            draft.echoCave[i] = c;
            draft.echoAfter[i] = readNumber("after", 0, 400);
            return draft.echoAfter[i] != NONE;
        }

        private boolean readUnsure() {
            int one = readFirstCave();
            int other = one == NONE ? NONE : caveHere();
            if (other == NONE) {
                return false;
            }
            int k = draft.wayBetween(one, other);
            if (other == one || k != NONE && draft.isUnsure(k)) {
                return fails(FAULT_AGAIN);
            }
            if (k == NONE) {
                return fails(FAULT_NO_WAY);
            }
            draft.unsureWay[draft.count[LINE_UNSURE]] = k;
            tokens.advance();
            return true;
        }

        private boolean readTalk() {
            int i = draft.count[LINE_TALK];
            int one = readFirstCave();
            int other = one == NONE ? NONE : caveHere();
            if (other == NONE) {
                return false;
            }
            if (other == one) {
                return fails(FAULT_AGAIN);
            }
            tokens.advance();
            draft.talkOne[i] = one;
            draft.talkOther[i] = other;
            if (tokens.isWord("heard")) {
                draft.heard |= 1 << i;
                return readWord("heard");
            }
            return readWord("lost");
        }

        private int lineHere() {
            int name = nameHere();
            return name < LINES ? name : NONE;
        }

        private static String lineWord(int sort) {
            switch (sort) {
                case LINE_WELL:
                    return "well";
                case LINE_CAVE:
                    return "cave";
                case LINE_WAY:
                    return "way";
                case LINE_VOICE:
                    return "voice";
                case LINE_FOLK:
                    return "folk";
                case LINE_ECHO:
                    return "echo";
                case LINE_UNSURE:
                    return "unsure";
                default:
                    return "talk";
            }
        }

        private int kindHere() {
            if (tokens.isWord("idle")) {
                return IDLE;
            }
            if (tokens.isWord("shy")) {
                return SHY;
            }
            if (tokens.isWord("bold")) {
                return BOLD;
            }
            return tokens.isWord("rover") ? ROVER : NONE;
        }

        private boolean readWord(String word) {
            if (!tokens.isWord(word)) {
                return fails(FAULT_FORM);
            }
            tokens.advance();
            return true;
        }

        private int readNumber(String word, int least, int most) {
            if (!readWord(word)) {
                return NONE;
            }
            if (tokens.sort != Tokens.WHOLE) {
                return failsWhole(FAULT_FORM);
            }
            int number = tokens.wholeNumber();
            if (number < least || number > most) {
                return failsWhole(FAULT_BOUNDS);
            }
            tokens.advance();
            return number;
        }

        /** A cave for which no other FAULT than caveHere() knows can be met. */
        private int readFirstCave() {
            int c = caveHere();
            if (c != NONE) {
                tokens.advance();
            }
            return c;
        }

        private int caveHere() {
            int name = nameHere();
            if (!isName(name)) {
                return failsWhole(FAULT_FORM);
            }
            if (name == NONE || nameSort[name] != LINE_CAVE) {
                return failsWhole(FAULT_NAME);
            }
            return nameNumber[name];
        }

        private boolean readNewName(int sort) {
            int name = nameHere();
            if (!isName(name)) {
                return fails(FAULT_FORM);
            }
            if (name != NONE) {
                return fails(FAULT_AGAIN);
            }
            if (names >= NAMES) {
                return fails(FAULT_MANY);
            }
            nameWord[names] = tokens.wordNumber();
            nameSort[names] = sort;
            nameNumber[names] = draft.count[sort];
            names++;
            tokens.advance();
            return true;
        }

        /** Whether the WORD here, found among those known or not, may be a NAME. */
        private boolean isName(int known) {
            return tokens.sort == Tokens.WORD && (known == NONE || known >= LINES);
        }

        private int nameHere() {
            long word = tokens.sort == Tokens.WORD ? tokens.wordNumber() : 0;
            for (int i = 0; i < names; i++) {
                if (nameWord[i] == word) {
                    return i;
                }
            }
            return NONE;
        }

        private boolean fails(int why) {
            fault = why;
            place = tokens.place;
            return false;
        }

        private int failsWhole(int why) {
            fault = why;
            place = tokens.place;
            return NONE;
        }
    }

    /** All that acts change; what UNDO and IMAGES keep. */
    private static final class State {
        final int[] voiceCave = new int[VOICES];
        final int[] voiceFrom = new int[VOICES];
        final int[] folkCave = new int[FOLK];
        int wet;
        int years;

        void begin(Told told) {
            System.arraycopy(told.voiceCave, 0, voiceCave, 0, VOICES);
            System.arraycopy(told.folkCave, 0, folkCave, 0, FOLK);
            for (int v = 0; v < VOICES; v++) {
                voiceFrom[v] = NO;
            }
            wet = told.wet;
            years = 0;
        }

        void take(State other) {
            System.arraycopy(other.voiceCave, 0, voiceCave, 0, VOICES);
            System.arraycopy(other.voiceFrom, 0, voiceFrom, 0, VOICES);
            System.arraycopy(other.folkCave, 0, folkCave, 0, FOLK);
            wet = other.wet;
            years = other.years;
        }

        boolean moveVoice(int v, int to) {
            if (voiceCave[v] == to) {
                return false;
            }
            voiceFrom[v] = voiceCave[v];
            voiceCave[v] = to;
            return true;
        }
    }

    /** The states to which UNDO and the IMAGES lead back. */
    private static final class Kept {
        private final State[] past = new State[PAST];
        private final State[] images = new State[IMAGES];
        private int nextPast;
        int pastSize;
        int imageSize;

        Kept() {
            for (int i = 0; i < PAST; i++) {
                past[i] = new State();
            }
            for (int i = 0; i < IMAGES; i++) {
                images[i] = new State();
            }
        }

        void empty() {
            pastSize = 0;
            imageSize = 0;
        }

        void keep(State now) {
            past[nextPast].take(now);
            nextPast = (nextPast + 1) % PAST;
            pastSize = Math.min(pastSize + 1, PAST);
        }

        void giveBack(State now) {
            nextPast = (nextPast + PAST - 1) % PAST;
            pastSize--;
            now.take(past[nextPast]);
        }

        int addImage(State now) {
            images[imageSize].take(now);
            imageSize++;
            return imageSize - 1;
        }

        void goBack(State now, int image) {
            now.take(images[image]);
            pastSize = 0;
        }
    }

    /** The caves by some choice of wet ways: NEIGHBOURS and FAR. */
    private static final class Land {
        private final Told told;
        final int[] near = new int[CAVES];
        private final int[] spans = new int[CAVES * CAVES];
        private int wet;

        Land(Told told) {
            this.told = told;
        }

        void lay(int wetWays) {
            wet = wetWays;
            joinNeighbours();
            for (int c = 0; c < told.count[LINE_CAVE]; c++) {
                measure(c);
            }
        }

        /** Lays what one cave needs alone, for droughts and talk that try many choices. */
        void layFrom(int wetWays, int c) {
            wet = wetWays;
            measure(c);
        }

        private void joinNeighbours() {
            for (int c = 0; c < CAVES; c++) {
                near[c] = 0;
            }
            for (int k = 0; k < told.count[LINE_WAY]; k++) {
                if (!hasBit(wet, k)) {
                    near[told.low[k]] |= 1 << told.high[k];
                    near[told.high[k]] |= 1 << told.low[k];
                }
            }
        }

        private void measure(int c) {
            int row = c * CAVES;
            for (int to = 0; to < CAVES; to++) {
                spans[row + to] = FAR_OFF;
            }
            spans[row + c] = 0;
            boolean shorter = true;
            for (int turn = 0; turn < CAVES && shorter; turn++) {
                shorter = false;
                for (int k = 0; k < told.count[LINE_WAY]; k++) {
                    if (!hasBit(wet, k) && shortens(row + told.low[k], row + told.high[k], told.length[k])) {
                        shorter = true;
                    }
                }
            }
        }

        private boolean shortens(int one, int other, int length) {
            if (spans[one] + length < spans[other]) {
                spans[other] = spans[one] + length;
                return true;
            }
            if (spans[other] + length < spans[one]) {
                spans[one] = spans[other] + length;
                return true;
            }
            return false;
        }

        int span(int c, int to) {
            return spans[c * CAVES + to];
        }

        int reachedFrom(int c) {
            int found = 0;
            for (int to = 0; to < told.count[LINE_CAVE]; to++) {
                if (span(c, to) < FAR_OFF) {
                    found++;
                }
            }
            return found;
        }

        int firstStep(int c, int to) {
            if (c == to || span(c, to) >= FAR_OFF) {
                return NO;
            }
            for (int x = 0; x < told.count[LINE_CAVE]; x++) {
                if (hasBit(near[c], x)) {
                    int k = told.wayBetween(c, x);
                    if (k >= 0 && told.length[k] + span(x, to) == span(c, to)) {
                        return x;
                    }
                }
            }
            return NO;
        }

        int lastFrom(int c) {
            int last = c;
            for (int to = 0; to < told.count[LINE_CAVE]; to++) {
                // "the first such": c itself, at 0, gives way to any other one.
                if (span(c, to) < FAR_OFF && span(c, to) > span(c, last)) {
                    last = to;
                }
            }
            return last;
        }

        /** The caves, as bits, to which dry ways lead from one that touch no barred cave. */
        private int joinedTo(int c, int barred) {
            int found = 1 << c;
            int looked = 0;
            for (int turn = 0; turn < CAVES && looked != found; turn++) {
                int before = found;
                for (int x = 0; x < told.count[LINE_CAVE]; x++) {
                    if (hasBit(before & ~looked, x)) {
                        found |= near[x] & ~barred;
                    }
                }
                looked = before;
            }
            return found;
        }

        int countParts() {
            int parts = 0;
            int seen = 0;
            for (int c = 0; c < told.count[LINE_CAVE]; c++) {
                if (!hasBit(seen, c)) {
                    parts++;
                    seen |= joinedTo(c, 0);
                }
            }
            return parts;
        }

        int worstLoss() {
            int worst = NO;
            int most = 0;
            for (int c = 0; c < told.count[LINE_CAVE]; c++) {
                int lost = lossWithout(c);
                if (lost > most) {
                    most = lost;
                    worst = c;
                }
            }
            return worst;
        }

        /** Counts each lost pair twice, which changes no comparison. */
        private int lossWithout(int gone) {
            int barred = 1 << gone;
            int lost = 0;
            for (int c = 0; c < told.count[LINE_CAVE]; c++) {
                if (c != gone) {
                    lost += Integer.bitCount(joinedTo(c, 0) & ~barred & ~joinedTo(c, barred));
                }
            }
            return lost;
        }
    }

    /** Where voices go, by YEARS and by CALLS. */
    private static final class Going {
        private final Told told;
        private final State now;
        private final Land land;
        final int[] trail = new int[3 * STATES + 1];
        final int[] otherTrail = new int[YEARS_AHEAD + 1];
        private final int[] callsLeft = new int[CAVES];

        Going(Told told, State now, Land land) {
            this.told = told;
            this.now = now;
            this.land = land;
        }

        int yearStep(int kind, int c, int from) {
            switch (kind) {
                case SHY:
                    return folkStep(c, false);
                case BOLD:
                    return folkStep(c, true);
                case ROVER:
                    return roverStep(c, from);
                default:
                    return c;
            }
        }

        private int roverStep(int c, int from) {
            int ways = land.near[c];
            if (ways == 0) {
                return c;
            }
            int fresh = from < 0 ? ways : ways & ~(1 << from);
            for (int x = 0; x < told.count[LINE_CAVE]; x++) {
                if (hasBit(fresh, x)) {
                    return x;
                }
            }
            return from;
        }

        private int folkStep(int c, boolean bold) {
            int best = c;
            int bestSpan = nearestFolk(c);
            for (int x = 0; x < told.count[LINE_CAVE]; x++) {
                if (hasBit(land.near[c], x)) {
                    int span = nearestFolk(x);
                    if (bold ? span < bestSpan : span > bestSpan) {
                        best = x;
                        bestSpan = span;
                    }
                }
            }
            return best;
        }

        private int nearestFolk(int c) {
            int nearest = FAR_OFF;
            for (int f = 0; f < told.count[LINE_FOLK]; f++) {
                nearest = Math.min(nearest, land.span(c, now.folkCave[f]));
            }
            return nearest;
        }

        int callStep(int kind, int c, int at) {
            if (kind == IDLE || c == at || land.span(c, at) > told.loud) {
                return c;
            }
            int step = land.firstStep(c, at);
            return step < 0 ? c : step;
        }

        /** Puts the caves of a voice, from NOW on, into a row; the years must fit into it. */
        void follow(int v, int years, int[] row) {
            int c = now.voiceCave[v];
            int from = now.voiceFrom[v];
            row[0] = c;
            for (int n = 1; n <= years && n < row.length; n++) {
                int to = yearStep(told.kind[v], c, from);
                if (to != c) {
                    from = c;
                    c = to;
                }
                row[n] = c;
            }
        }

        int roundLength(int v) {
            follow(v, 3 * STATES, trail);
            for (int length = 1; length < STATES; length++) {
                if (comesAgain(length)) {
                    return length;
                }
            }
            return STATES;
        }

        /** Behind STATES years the voice goes round for sure, and a round has no more than those. */
        private boolean comesAgain(int length) {
            for (int n = STATES; n < 2 * STATES; n++) {
                if (trail[n] != trail[n + length]) {
                    return false;
                }
            }
            return true;
        }

        int roundStart(int v) {
            int length = roundLength(v);
            int start = STATES;
            while (start > 0 && trail[start - 1] == trail[start - 1 + length]) {
                start--;
            }
            return start;
        }

        /** How many CALLS bring a voice to a cave; callAt() then tells which. */
        int callsNeeded(int v, int target) {
            for (int c = 0; c < CAVES; c++) {
                callsLeft[c] = FAR_OFF;
            }
            callsLeft[target] = 0;
            boolean fewer = true;
            for (int turn = 0; turn < CAVES && fewer; turn++) {
                fewer = false;
                for (int c = 0; c < told.count[LINE_CAVE]; c++) {
                    if (lessensCalls(told.kind[v], c)) {
                        fewer = true;
                    }
                }
            }
            return callsLeft[now.voiceCave[v]];
        }

        private boolean lessensCalls(int kind, int c) {
            boolean less = false;
            for (int m = 0; m < told.count[LINE_CAVE]; m++) {
                if (isMouth(m)) {
                    int left = callsLeft[callStep(kind, c, m)] + 1;
                    if (left < callsLeft[c]) {
                        callsLeft[c] = left;
                        less = true;
                    }
                }
            }
            return less;
        }

        private boolean isMouth(int c) {
            return hasBit(told.mouths, c);
        }

        int callAt(int v, int i) {
            int c = now.voiceCave[v];
            for (int done = 0; done < i && done < CAVES; done++) {
                c = callStep(told.kind[v], c, firstCall(told.kind[v], c));
            }
            return firstCall(told.kind[v], c);
        }

        private int firstCall(int kind, int c) {
            for (int m = 0; m < told.count[LINE_CAVE]; m++) {
                if (isMouth(m) && callsLeft[callStep(kind, c, m)] == callsLeft[c] - 1) {
                    return m;
                }
            }
            return c;
        }

        int broughtTo(int v) {
            int found = 1 << now.voiceCave[v];
            int looked = 0;
            for (int turn = 0; turn < CAVES && looked != found; turn++) {
                int before = found;
                for (int c = 0; c < told.count[LINE_CAVE]; c++) {
                    if (hasBit(before & ~looked, c)) {
                        found |= oneCallFrom(told.kind[v], c);
                    }
                }
                looked = before;
            }
            return found;
        }

        private int oneCallFrom(int kind, int c) {
            int bits = 0;
            for (int m = 0; m < told.count[LINE_CAVE]; m++) {
                if (isMouth(m)) {
                    bits |= 1 << callStep(kind, c, m);
                }
            }
            return bits;
        }
    }

    /** Where the first voice was at first, by the echoes told. */
    private static final class Guess {
        private final Told told;
        private final Land first;

        Guess(Told told, Land first) {
            this.told = told;
            this.first = first;
        }

        /** How likely the echoes are as told, the voice being in a cave, in hundredths each. */
        long weightOf(int c) {
            long weight = 1;
            for (int i = 0; i < told.count[LINE_ECHO]; i++) {
                weight *= isRight(i, c) ? 100 - told.errs : told.errs;
            }
            return weight;
        }

        private boolean isRight(int i, int c) {
            return 2 * first.span(told.echoCave[i], c) == told.echoAfter[i];
        }

        long allWeights() {
            long sum = 0;
            for (int c = 0; c < told.count[LINE_CAVE]; c++) {
                sum += weightOf(c);
            }
            return sum;
        }

        int fitting() {
            int bits = 0;
            for (int c = 0; c < told.count[LINE_CAVE]; c++) {
                if (weightOf(c) > 0) {
                    bits |= 1 << c;
                }
            }
            return bits;
        }

        int heaviest() {
            int best = NO;
            long most = 0;
            for (int c = 0; c < told.count[LINE_CAVE]; c++) {
                long weight = weightOf(c);
                if (weight > most) {
                    most = weight;
                    best = c;
                }
            }
            return best;
        }

        int bestStone() {
            int fits = fitting();
            int best = NO;
            int fewest = CAVES + 1;
            for (int c = 0; c < told.count[LINE_CAVE] && fits != 0; c++) {
                int left = leftBy(c, fits);
                if (left < fewest) {
                    fewest = left;
                    best = c;
                }
            }
            return best;
        }

        /** How many FITS share an ECHO of a cave, at most; those without one share that. */
        int leftBy(int stone, int fits) {
            int most = 0;
            for (int c = 0; c < told.count[LINE_CAVE]; c++) {
                if (hasBit(fits, c)) {
                    most = Math.max(most, alikeFrom(stone, fits, first.span(stone, c)));
                }
            }
            return most;
        }

        private int alikeFrom(int stone, int fits, int span) {
            int found = 0;
            for (int c = 0; c < told.count[LINE_CAVE]; c++) {
                if (hasBit(fits, c) && first.span(stone, c) == span) {
                    found++;
                }
            }
            return found;
        }

        int firstWrongEcho() {
            if (told.count[LINE_VOICE] == 0) {
                return NO;
            }
            for (int i = 0; i < told.count[LINE_ECHO]; i++) {
                if (!isRight(i, told.voiceCave[0])) {
                    return i;
                }
            }
            return NO;
        }
    }

    /** Which unsure ways, being otherwise, fit the talk. */
    private static final class Nets {
        private final Told told;
        private final Land trial;

        Nets(Told told, Land trial) {
            this.told = told;
            this.trial = trial;
        }

        /** By bits: the set with the number s of unsure ways fits if bit s is there. */
        int fittingSets() {
            int sets = 0;
            for (int set = 0; set < 1 << told.count[LINE_UNSURE]; set++) {
                if (firstUntrueTalk(set) == NO) {
                    sets |= 1 << set;
                }
            }
            return sets;
        }

        int setAt(int i) {
            int sets = fittingSets();
            int found = 0;
            for (int set = 0; set < 1 << UNSURES; set++) {
                if (hasBit(sets, set)) {
                    if (found == i) {
                        return set;
                    }
                    found++;
                }
            }
            return NONE;
        }

        int setsWithDry(int unsure) {
            int sets = fittingSets();
            boolean wetAtFirst = hasBit(told.wet, told.unsureWay[unsure]);
            int found = 0;
            for (int set = 0; set < 1 << UNSURES; set++) {
                if (hasBit(sets, set) && hasBit(set, unsure) == wetAtFirst) {
                    found++;
                }
            }
            return found;
        }

        int firstUntrueTalk(int set) {
            int wet = wetBy(set);
            for (int i = 0; i < told.count[LINE_TALK]; i++) {
                trial.layFrom(wet, told.talkOne[i]);
                boolean hears = trial.span(told.talkOne[i], told.talkOther[i]) <= told.loud;
                if (hears != hasBit(told.heard, i)) {
                    return i;
                }
            }
            return NO;
        }

        private int wetBy(int set) {
            int wet = told.wet;
            for (int i = 0; i < told.count[LINE_UNSURE]; i++) {
                if (hasBit(set, i)) {
                    wet ^= 1 << told.unsureWay[i];
                }
            }
            return wet;
        }
    }

    /** CHASE, for all pairs of caves at once: who is had in one going, in two, and so on. */
    private static final class Hunt {
        private final Told told;
        private final Land land;
        private final int[] goings = new int[CAVES * CAVES];
        /** By the owner's cave: caves, as bits, in which the voice is had by then. */
        private final int[] had = new int[CAVES];
        private final int[] hadNext = new int[CAVES];

        Hunt(Told told, Land land) {
            this.told = told;
            this.land = land;
        }

        int goingsNeeded(int owner, int voice) {
            for (int i = 0; i < CAVES * CAVES; i++) {
                goings[i] = FAR_OFF;
            }
            for (int c = 0; c < CAVES; c++) {
                goings[c * CAVES + c] = 0;
                had[c] = 1 << c;
                hadNext[c] = 1 << c;
            }
            boolean more = true;
            for (int count = 1; count <= CAVES * CAVES && more; count++) {
                more = goOnceMore(count);
            }
            return goings[owner * CAVES + voice];
        }

        private boolean goOnceMore(int count) {
            boolean more = false;
            for (int owner = 0; owner < told.count[LINE_CAVE]; owner++) {
                for (int voice = 0; voice < told.count[LINE_CAVE]; voice++) {
                    if (goings[owner * CAVES + voice] == FAR_OFF && hasItFrom(owner, voice)) {
                        goings[owner * CAVES + voice] = count;
                        hadNext[owner] |= 1 << voice;
                        more = true;
                    }
                }
            }
            System.arraycopy(hadNext, 0, had, 0, CAVES);
            return more;
        }

        private int aroundOf(int c) {
            return land.near[c] | 1 << c;
        }

        private boolean hasItFrom(int owner, int voice) {
            int around = aroundOf(owner);
            for (int to = 0; to < told.count[LINE_CAVE]; to++) {
                if (hasBit(around, to) && (to == voice || (aroundOf(voice) & ~had[to]) == 0)) {
                    return true;
                }
            }
            return false;
        }

        int firstGoing(int owner, int voice) {
            int needed = goingsNeeded(owner, voice);
            if (needed == 0 || needed >= FAR_OFF) {
                return NO;
            }
            if (goingsBehind(owner, voice) == needed - 1) {
                return owner;
            }
            for (int to = 0; to < told.count[LINE_CAVE]; to++) {
                if (hasBit(land.near[owner], to) && goingsBehind(to, voice) == needed - 1) {
                    return to;
                }
            }
            return NO;
        }

        /** How many goings are left to the owner, the voice going next. */
        private int goingsBehind(int owner, int voice) {
            if (owner == voice) {
                return 0;
            }
            int most = 0;
            for (int to = 0; to < told.count[LINE_CAVE]; to++) {
                if (hasBit(aroundOf(voice), to)) {
                    most = Math.max(most, goings[owner * CAVES + to]);
                }
            }
            return most;
        }
    }

    /** DROUGHTS, by chance and by draws. */
    private static final class Drought {
        private final Told told;
        private final State now;
        private final Land trial;
        int seed;

        Drought(Told told, State now, Land trial) {
            this.told = told;
            this.now = now;
            this.trial = trial;
        }

        /** In how many of a hundred by a hundred .. cases, one hundred for each wet way. */
        long allChances() {
            long chances = 1;
            for (int i = 0; i < Integer.bitCount(now.wet); i++) {
                chances *= 100;
            }
            return chances;
        }

        long chanceWithin(int c, int to, int much) {
            long sum = 0;
            int dried = 0;
            for (int i = 0; i < 1 << Integer.bitCount(now.wet); i++) {
                trial.layFrom(now.wet & ~dried, c);
                if (trial.span(c, to) <= much) {
                    sum += chanceOf(dried);
                }
                dried = nextDried(dried);
            }
            return sum;
        }

        long cavesByChance(int c) {
            long sum = 0;
            int dried = 0;
            for (int i = 0; i < 1 << Integer.bitCount(now.wet); i++) {
                trial.layFrom(now.wet & ~dried, c);
                sum += chanceOf(dried) * trial.reachedFrom(c);
                dried = nextDried(dried);
            }
            return sum;
        }

        /** Counts on within the bits of the wet ways: the borrow runs over all other bits. */
        private int nextDried(int dried) {
            return (dried - now.wet) & now.wet;
        }

        private long chanceOf(int dried) {
            long chance = 1;
            for (int k = 0; k < told.count[LINE_WAY]; k++) {
                if (hasBit(now.wet, k)) {
                    chance *= hasBit(dried, k) ? told.drought : 100 - told.drought;
                }
            }
            return chance;
        }

        int spanByDraws(int c, int to) {
            int wet = now.wet;
            for (int k = 0; k < told.count[LINE_WAY]; k++) {
                if (hasBit(now.wet, k)) {
                    seed = (75 * seed + 74) % 65537;
                    if (seed % 100 < told.drought) {
                        wet &= ~(1 << k);
                    }
                }
            }
            trial.layFrom(wet, c);
            return trial.span(c, to);
        }
    }
}
