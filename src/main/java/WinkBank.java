import java.util.NoSuchElementException;

/** Tiddlywinks as finance: a counting room told as a text, played as a text, and asked about. */
public final class WinkBank {
    public static final int NONE = -1;

    private static final int FLOOR = -2;
    /** A WINK IN CUP c is held at IN_CUP - c, so that one number tells both that and where. */
    private static final int IN_CUP = -3;
    private static final int NO_FLICK = -3;

    private static final int MOST_HOUSES = 5;
    private static final int MOST_WINKS = 10;
    private static final int MOST_CUPS = 4;
    private static final int MOST_CELLS = 30;
    private static final int MOST_CLAUSES = 60;
    private static final int MOST_PRESS = 9;
    private static final int MOST_FLIGHT = 60;
    private static final int MOST_COINS = 9999;
    private static final int MOST_OPEN = 6;
    private static final int LAST_DAY = 500;
    private static final int MOST_PLAYS = 16;
    private static final int MOST_IMAGES = 3;

    private static final int TAPE_BYTES = 600;
    private static final int FEED_BYTES = 20;
    private static final int LAW_BYTES = 150;
    private static final int PLAY_BYTES = 150;
    private static final int BOOK_BYTES = 100;

    private static final int MISPLACED = 1;
    private static final int NO_SUCH_NUMBER = 2;
    private static final int TOO_MANY = 3;
    private static final int OFF_THE_FELT = 4;

    private final Text text;
    private final Room room;
    private final Room draft;
    private final Law law;
    private final Book book;
    private final Steps steps;
    private final Board now;
    private final Board trial;
    private final Aim aim;
    private final Duel duelists;
    private final Season weather;
    private final Kept[] images;
    private final int[] scratch;
    private Kept plays;
    private int imageCount;
    private int refusedSteps;
    private int noSuchCalls;
    private int illegalCalls;

    public WinkBank() {
        text = new Text();
        room = new Room();
        draft = new Room();
        law = new Law();
        now = new Board(room, law);
        trial = new Board(room, law);
        book = new Book(now, law);
        steps = new Steps();
        aim = new Aim(room, now, law);
        duelists = new Duel(room, now);
        weather = new Season(room, trial);
        images = new Kept[MOST_IMAGES];
        scratch = new int[Board.ROW];
        plays = null;
    }

    // ---- texts ----

    public int feed(int a, int b, int c, int d, int e) {
        if (text.size + FEED_BYTES > TAPE_BYTES) {
            return NONE;
        }
        text.put(a);
        text.put(b);
        text.put(c);
        text.put(d);
        text.put(e);
        return text.size;
    }

    public int room(int n) throws IllegalArgumentException {
        openText(n, TAPE_BYTES);
        if (!draft.readFrom(text)) {
            return text.answer();
        }
        room.copyFrom(draft);
        law.setPlain();
        book.wipe();
        now.begin();
        plays = null;
        imageCount = 0;
        refusedSteps = 0;
        return room.winks;
    }

    public int law(int n) throws IllegalArgumentException {
        openText(n, LAW_BYTES);
        return law.readFrom(text) ? 1 : text.answer();
    }

    public int play(int n) throws IllegalArgumentException {
        openText(n, PLAY_BYTES);
        if (playCount() >= MOST_PLAYS) {
            return -20;
        }
        if (!steps.readFrom(text, room.winks)) {
            return text.answer();
        }
        plays = keepNow();
        steps.run(now);
        refusedSteps = steps.refused;
        return steps.done;
    }

    public int book(int n) throws IllegalArgumentException {
        openText(n, BOOK_BYTES);
        return book.readFrom(text) ? book.lines : text.answer();
    }

    public int fault() {
        return text.place;
    }

    // ---- what lies where ----

    public int told(int what) throws IllegalArgumentException {
        need(what >= 0 && what <= 11);
        switch (what) {
            case 0: return room.houses;
            case 1: return room.winks;
            case 2: return room.cups;
            case 3: return now.day;
            case 4: return now.damp;
            case 5: return now.frozenBits();
            case 6: return now.inCupBits();
            case 7: return now.floorBits();
            case 8: return book.lines;
            case 9: return refusedSteps;
            case 10: return room.felt;
            default: return room.nap;
        }
    }

    public int house(int house, int what) throws NoSuchElementException, IllegalArgumentException {
        needHouse(house);
        needWhat(what, 2);
        if (what == 0) {
            return now.coins[house];
        }
        int own = room.winksOf(house);
        return what == 1 ? own : own & now.freeBits();
    }

    public int wink(int wink, int what) throws NoSuchElementException, IllegalArgumentException {
        needWink(wink);
        needWhat(what, 5);
        switch (what) {
            case 0: return room.owners[wink];
            case 1: return room.sizes[wink];
            case 2: return Math.max(now.cells[wink], IN_CUP);
            case 3: return now.shots[wink];
            case 4: return now.unders[wink];
            default: return now.onTopOf(wink);
        }
    }

    public int cup(int cup, int what) throws NoSuchElementException, IllegalArgumentException {
        needCup(cup);
        needWhat(what, 2);
        if (what == 0) {
            return room.cupCells[cup];
        }
        return what == 1 ? room.cupPays[cup] : now.howManyIn(cup);
    }

    public int cell(int cell, int what) throws NoSuchElementException, IllegalArgumentException {
        needThere(cell, room.felt);
        needWhat(what, 3);
        switch (what) {
            case 0: return now.heights[cell];
            case 1: return now.lyingAt(cell, now.heights[cell] - 1);
            case 2: return now.lyingAt(cell, 0);
            default: return room.cupAt(cell);
        }
    }

    public int trust(int what) throws IllegalArgumentException {
        needWhat(what, 1);
        int most = 0;
        int where = NONE;
        for (int x = 0; x < room.felt; x++) {
            if (now.heights[x] > most) {
                most = now.heights[x];
                where = x;
            }
        }
        if (where == NONE) {
            return NONE;
        }
        return what == 0 ? where : most;
    }

    // ---- where a flick comes down ----

    public int flies(int wink, int press) throws NoSuchElementException, IllegalArgumentException {
        needWink(wink);
        needPress(press);
        return now.flight(wink, press);
    }

    public int would(int press, int size, int nap, int damp, int under, int shots, int cell, int day, int coins)
            throws IllegalArgumentException {
        needWithin(press, 1, MOST_PRESS);
        needWithin(size, 1, 9);
        needWithin(nap, 0, 9);
        needWithin(damp, 0, 9);
        needWithin(under, 0, 9);
        needWithin(shots, 0, 99);
        needWithin(cell, 0, MOST_CELLS - 1);
        needWithin(day, 0, LAST_DAY);
        needWithin(coins, 0, MOST_COINS);
        law.seen[Law.SIZE] = size;
        law.seen[Law.NAP] = nap;
        law.seen[Law.DAMP] = damp;
        law.seen[Law.UNDER] = under;
        law.seen[Law.SHOTS] = shots;
        law.seen[Law.CELL] = cell;
        law.seen[Law.DAY] = day;
        law.seen[Law.COINS] = coins;
        return law.flightBy(press);
    }

    public int down(int wink, int press, int how) throws NoSuchElementException, IllegalArgumentException {
        needWink(wink);
        needPress(press);
        needWhat(how, 1);
        return now.isFree(wink) ? now.landing(wink, press, how) : NO_FLICK;
    }

    public int presses(int wink, int how) throws NoSuchElementException, IllegalArgumentException {
        needWink(wink);
        needWhat(how, 1);
        int bits = 0;
        for (int press = 1; press <= MOST_PRESS; press++) {
            if (aim.cupHit(wink, press, how) != NONE) {
                bits |= 1 << (press - 1);
            }
        }
        return bits;
    }

    public int gain(int house, int what) throws NoSuchElementException, IllegalArgumentException {
        needHouse(house);
        needWhat(what, 1);
        aim.seekGain(house);
        return what == 0 ? aim.most : aim.firstFlick;
    }

    public int way(int wink, int what) throws NoSuchElementException, IllegalArgumentException {
        needWink(wink);
        needWhat(what, 1);
        aim.seekWay(wink);
        return what == 0 ? aim.most : aim.firstFlick;
    }

    public int odds(int wink, int press, int q, int part) throws NoSuchElementException, IllegalArgumentException {
        needThumb(wink, press, q, part);
        aim.weighThumb(wink, press, q, false);
        return part == 0 ? aim.above : aim.below;
    }

    public int mean(int wink, int press, int q, int part) throws NoSuchElementException, IllegalArgumentException {
        needThumb(wink, press, q, part);
        aim.weighThumb(wink, press, q, true);
        return part == 0 ? aim.above : aim.below;
    }

    public int match() {
        return aim.giveCups();
    }

    public int matched(int cup) throws NoSuchElementException {
        needCup(cup);
        aim.giveCups();
        return aim.given[cup];
    }

    public int fits(int wink, int what) throws NoSuchElementException, IllegalArgumentException {
        needWink(wink);
        needWhat(what, 1);
        book.seekPairs(wink);
        return what == 0 ? book.pairs : book.firstPair;
    }

    public int look(int wink, int what) throws NoSuchElementException, IllegalArgumentException {
        needWink(wink);
        needWhat(what, 1);
        book.seekPress(wink);
        return what == 0 ? book.nextPress : book.leftAtWorst;
    }

    public int duel(int wink, int other, int what) throws NoSuchElementException, IllegalArgumentException {
        needWink(wink);
        needWink(other);
        needWhat(what, 2);
        need(wink != other && now.isFree(wink) && now.isFree(other));
        duelists.fight(wink, other);
        if (what == 0) {
            return duelists.rests;
        }
        return what == 1 ? duelists.first : duelists.together;
    }

    public int panic(int press, int what) throws IllegalArgumentException {
        needPress(press);
        needWhat(what, 2);
        startTrial();
        int freed = trial.freeBits();
        int inBefore = Integer.bitCount(trial.inCupBits());
        int floorBefore = Integer.bitCount(trial.floorBits());
        for (int w = 0; w < room.winks; w++) {
            if ((freed >> w & 1) == 1 && trial.isFree(w)) {
                trial.fly(w, trial.flight(w, press));
            }
        }
        if (what == 0) {
            return Integer.bitCount(trial.inCupBits()) - inBefore;
        }
        return what == 1 ? Integer.bitCount(trial.floorBits()) - floorBefore : Integer.bitCount(trial.frozenBits());
    }

    // ---- coins ----

    public int level(int house, int n) throws NoSuchElementException, IllegalArgumentException {
        needHouse(house);
        needWithin(n, 0, MOST_COINS);
        int bound = 0;
        // bit by bit from above: what is given grows with the bound, and no HOUSE has 16,384 coins
        for (int bit = 8192; bit > 0; bit >>= 1) {
            if (now.givenWithin(bound + bit) <= n) {
                bound += bit;
            }
        }
        return Math.min(now.coins[house], bound);
    }

    public int richest(int what) throws IllegalArgumentException {
        needWhat(what, 1);
        if (room.houses == 0) {
            return NONE;
        }
        int first = 0;
        for (int h = 1; h < room.houses; h++) {
            if (now.coins[h] > now.coins[first]) {
                first = h;
            }
        }
        return what == 0 ? first : now.coins[first];
    }

    public int ahead(int house, int n) throws NoSuchElementException, IllegalArgumentException {
        needHouse(house);
        needWithin(n, 0, 100);
        startTrial();
        for (int i = 0; i < n; i++) {
            trial.passDay();
        }
        return trial.coins[house];
    }

    // ---- seasons ----

    public int season(int seed, int q, int flicks, int what) throws IllegalArgumentException {
        needWithin(q, 0, 16);
        needWithin(flicks, 1, 96);
        needWhat(what, 3);
        startTrial();
        weather.run(seed, q, flicks);
        switch (what) {
            case 0: return Integer.bitCount(trial.inCupBits());
            case 1: return Integer.bitCount(trial.floorBits());
            case 2: return weather.done;
            default: return trial.givenWithin(MOST_COINS);
        }
    }

    public int span(int seed, int many, int q, int flicks, int what) throws IllegalArgumentException {
        needWithin(many, 1, 20);
        needWithin(q, 0, 16);
        needWithin(flicks, 1, 96);
        needWhat(what, 2);
        int fewest = MOST_WINKS;
        int most = 0;
        int clean = 0;
        for (int i = 0; i < many; i++) {
            startTrial();
            weather.run(seed + i, q, flicks);
            int in = Integer.bitCount(trial.inCupBits());
            fewest = Math.min(fewest, in);
            most = Math.max(most, in);
            clean += trial.floorBits() == 0 ? 1 : 0;
        }
        if (what == 0) {
            return fewest;
        }
        return what == 1 ? most : clean;
    }

    // ---- play undone, images, refusals ----

    public int undo() {
        if (plays == null) {
            return -1;
        }
        goBackTo(plays);
        return playCount();
    }

    public int image() {
        if (imageCount < 0 || imageCount >= images.length) {
            return -1;
        }
        images[imageCount] = keepNow();
        imageCount++;
        return imageCount;
    }

    public int restore() {
        if (imageCount < 1 || imageCount > images.length) {
            return -1;
        }
        imageCount--;
        Kept latest = images[imageCount];
        if (latest != null) {
            goBackTo(latest);
        }
        return imageCount;
    }

    public int status(int what) {
        switch (what) {
            case 0: return noSuchCalls;
            case 1: return illegalCalls;
            default: return NONE;
        }
    }

    public int count(int what) {
        switch (what) {
            case 0: return imageCount;
            case 1: return text.size;
            case 2: return playCount();
            default: return NONE;
        }
    }

    private int playCount() {
        return plays == null ? 0 : plays.depth;
    }

    private Kept keepNow() {
        Kept kept = new Kept(plays);
        now.save(kept.row);
        return kept;
    }

    private void goBackTo(Kept kept) {
        now.load(kept.row);
        plays = kept.below;
        refusedSteps = 0;
    }

    private void startTrial() {
        now.save(scratch);
        trial.load(scratch);
    }

    // ---- refusals ----

    private void openText(int n, int most) {
        need(n >= 0 && n <= most && n <= text.size);
        text.open(n);
    }

    private void needThumb(int wink, int press, int q, int part) {
        needWink(wink);
        needPress(press);
        needWithin(q, 0, 16);
        needWhat(part, 1);
    }

    private void needHouse(int house) {
        needThere(house, room.houses);
    }

    private void needWink(int wink) {
        needThere(wink, room.winks);
    }

    private void needCup(int cup) {
        needThere(cup, room.cups);
    }

    private void needThere(int number, int many) {
        if (number < 0 || number >= many) {
            noSuchCalls++;
            throw new NoSuchElementException();
        }
    }

    private void needPress(int press) {
        needWithin(press, 1, MOST_PRESS);
    }

    private void needWhat(int what, int most) {
        needWithin(what, 0, most);
    }

    private void needWithin(int value, int least, int most) {
        need(value >= least && value <= most);
    }

    private void need(boolean fine) {
        if (!fine) {
            illegalCalls++;
            throw new IllegalArgumentException();
        }
    }

    /** The TAPE, and the text at its beginning that is being read. */
    private static final class Text {
        private final byte[] bytes = new byte[TAPE_BYTES];
        private int size;
        private int end;
        private int at;
        /** The first byte of what was read or looked at last. */
        private int start;
        private int value;
        private int kind;
        private int place = NONE;

        void put(int four) {
            for (int shift = 24; shift >= 0; shift -= 8) {
                if (size >= 0 && size < bytes.length) {
                    bytes[size] = (byte) (four >> shift);
                    size++;
                }
            }
        }

        /** The TAPE is empty from here on; its bytes stay readable until it is fed again. */
        void open(int n) {
            end = Math.min(n, size);
            at = 0;
            start = 0;
            value = 0;
            kind = 0;
            place = NONE;
            size = 0;
        }

        int answer() {
            return kind - 10;
        }

        boolean fail(int faultKind, int faultPlace) {
            kind = faultKind;
            place = faultPlace;
            return false;
        }

        /** The sign that stands next, blanks left out; NONE at the end. */
        int peek() {
            while (at < end && bytes[at] == ' ') {
                at++;
            }
            start = at;
            return at < end ? bytes[at] & 255 : NONE;
        }

        /** What peek() saw is read. */
        void pass() {
            at++;
        }

        boolean sign(char due) {
            if (peek() != due) {
                return fail(MISPLACED, start);
            }
            at++;
            return true;
        }

        boolean number(int least, int most) {
            int digit = peek();
            if (digit < '0' || digit > '9') {
                return fail(MISPLACED, start);
            }
            value = 0;
            while (at < end && bytes[at] >= '0' && bytes[at] <= '9') {
                // no number of the document has more than three digits: a long one stays great, and never wraps
                value = Math.min(value * 10 + (bytes[at] - '0'), 1000000);
                at++;
            }
            return value >= least && value <= most || fail(NO_SUCH_NUMBER, start);
        }

        boolean word() {
            peek();
            while (at < end && bytes[at] >= 'a' && bytes[at] <= 'z') {
                at++;
            }
            return at > start || fail(MISPLACED, start);
        }

        boolean wordIs(String due) {
            int length = due.length();
            if (at - start != length) {
                return false;
            }
            for (int i = 0; i < length; i++) {
                if (bytes[start + i] != due.charAt(i)) {
                    return false;
                }
            }
            return true;
        }

        boolean allow(boolean enough) {
            return enough || fail(TOO_MANY, start);
        }
    }

    /** What a ROOM tells. */
    private static final class Room {
        private int houses;
        private int winks;
        private int cups;
        private int felt;
        private int nap;
        private final int[] coins = new int[MOST_HOUSES];
        private final int[] owners = new int[MOST_WINKS];
        private final int[] sizes = new int[MOST_WINKS];
        private final int[] places = new int[MOST_WINKS];
        private final int[] cupCells = new int[MOST_CUPS];
        private final int[] cupPays = new int[MOST_CUPS];

        Room() {
            clear();
        }

        private void clear() {
            houses = 0;
            winks = 0;
            cups = 0;
            felt = 12;
            nap = 3;
        }

        void copyFrom(Room other) {
            houses = other.houses;
            winks = other.winks;
            cups = other.cups;
            felt = other.felt;
            nap = other.nap;
            System.arraycopy(other.coins, 0, coins, 0, MOST_HOUSES);
            System.arraycopy(other.owners, 0, owners, 0, MOST_WINKS);
            System.arraycopy(other.sizes, 0, sizes, 0, MOST_WINKS);
            System.arraycopy(other.places, 0, places, 0, MOST_WINKS);
            System.arraycopy(other.cupCells, 0, cupCells, 0, MOST_CUPS);
            System.arraycopy(other.cupPays, 0, cupPays, 0, MOST_CUPS);
        }

        int winksOf(int house) {
            int bits = 0;
            for (int w = 0; w < winks; w++) {
                if (owners[w] == house) {
                    bits |= 1 << w;
                }
            }
            return bits;
        }

        int cupAt(int x) {
            for (int c = 0; c < cups; c++) {
                if (cupCells[c] == x) {
                    return c;
                }
            }
            return NONE;
        }

        boolean readFrom(Text text) {
            clear();
            for (int clauses = 0; clauses <= MOST_CLAUSES && text.peek() != NONE; clauses++) {
                if (!readClause(text, clauses < MOST_CLAUSES) || !text.sign(';')) {
                    return false;
                }
            }
            return allOnFelt() || text.fail(OFF_THE_FELT, text.end);
        }

        private boolean readClause(Text text, boolean more) {
            if (!text.word()) {
                return false;
            }
            if (text.wordIs("house")) {
                return text.allow(more && houses < MOST_HOUSES) && readHouse(text);
            }
            if (text.wordIs("wink")) {
                return text.allow(more && winks < MOST_WINKS) && readWink(text);
            }
            if (text.wordIs("cup")) {
                return text.allow(more && cups < MOST_CUPS) && readCup(text);
            }
            if (text.wordIs("felt")) {
                return text.allow(more) && readFelt(text);
            }
            if (text.wordIs("nap")) {
                return text.allow(more) && readNap(text);
            }
            return text.fail(MISPLACED, text.start);
        }

        private boolean readHouse(Text text) {
            if (!text.number(0, 999)) {
                return false;
            }
            coins[houses] = text.value;
            houses++;
            return true;
        }

        private boolean readFelt(Text text) {
            if (!text.number(4, MOST_CELLS)) {
                return false;
            }
            felt = text.value;
            return true;
        }

        private boolean readNap(Text text) {
            if (!text.number(0, 9)) {
                return false;
            }
            nap = text.value;
            return true;
        }

        private boolean readWink(Text text) {
            if (!text.number(0, houses - 1)) {
                return false;
            }
            owners[winks] = text.value;
            if (!text.number(1, 9)) {
                return false;
            }
            sizes[winks] = text.value;
            if (!text.number(0, MOST_CELLS - 1)) {
                return false;
            }
            places[winks] = text.value;
            winks++;
            return true;
        }

        private boolean readCup(Text text) {
            if (!text.number(0, MOST_CELLS - 1)) {
                return false;
            }
            if (cupAt(text.value) != NONE) {
                return text.fail(NO_SUCH_NUMBER, text.start);
            }
            cupCells[cups] = text.value;
            if (!text.number(1, 99)) {
                return false;
            }
            cupPays[cups] = text.value;
            cups++;
            return true;
        }

        private boolean allOnFelt() {
            for (int w = 0; w < winks; w++) {
                if (places[w] >= felt) {
                    return false;
                }
            }
            for (int c = 0; c < cups; c++) {
                if (cupCells[c] >= felt) {
                    return false;
                }
            }
            return true;
        }
    }

    /** A LAW as a row of codes, each operator behind what it works on. */
    private static final class Law {
        private static final int PRESS = 0;
        private static final int SIZE = 1;
        private static final int NAP = 2;
        private static final int DAMP = 3;
        private static final int UNDER = 4;
        private static final int SHOTS = 5;
        private static final int CELL = 6;
        private static final int DAY = 7;
        private static final int COINS = 8;

        /** Codes below this are numbers, from here on what is seen, from OPERATOR on what is worked out. */
        private static final int SEEN = 1000;
        private static final int OPERATOR = 2000;
        private static final int PLUS = 2000;
        private static final int MINUS = 2001;
        private static final int TIMES = 2002;
        private static final int OVER = 2003;
        private static final int LEAST = 2004;
        private static final int MOST = 2005;

        private static final int[] PLAIN = {
            SEEN + PRESS, 2, TIMES, SEEN + UNDER, PLUS, SEEN + NAP, MINUS, SEEN + DAMP, MINUS
        };

        private final int[] code = new int[LAW_BYTES];
        private final int[] draftCode = new int[LAW_BYTES];
        /** Each of the at most six that are open leaves three values behind at most. */
        private final int[] stack = new int[32];
        private final int[] seen = new int[9];
        private int length;
        private int draftLength;

        Law() {
            setPlain();
        }

        void setPlain() {
            System.arraycopy(PLAIN, 0, code, 0, PLAIN.length);
            length = PLAIN.length;
        }

        boolean readFrom(Text text) {
            draftLength = 0;
            if (!readSum(text, 0)) {
                return false;
            }
            if (text.peek() != NONE) {
                return text.fail(MISPLACED, text.start);
            }
            System.arraycopy(draftCode, 0, code, 0, draftLength);
            length = draftLength;
            return true;
        }

        private boolean readSum(Text text, int open) {
            if (!readProduct(text, open)) {
                return false;
            }
            for (int i = 0; i < LAW_BYTES; i++) {
                int sign = text.peek();
                if (sign != '+' && sign != '-') {
                    return true;
                }
                text.pass();
                if (!readProduct(text, open)) {
                    return false;
                }
                emit(sign == '+' ? PLUS : MINUS);
            }
            return true;
        }

        private boolean readProduct(Text text, int open) {
            if (!readUnit(text, open)) {
                return false;
            }
            for (int i = 0; i < LAW_BYTES; i++) {
                int sign = text.peek();
                if (sign != '*' && sign != '/') {
                    return true;
                }
                text.pass();
                if (!readUnit(text, open)) {
                    return false;
                }
                emit(sign == '*' ? TIMES : OVER);
            }
            return true;
        }

        private boolean readUnit(Text text, int open) {
            int sign = text.peek();
            if (sign >= '0' && sign <= '9') {
                return text.number(0, 999) && emit(text.value);
            }
            if (sign == '(') {
                return text.allow(open < MOST_OPEN) && text.sign('(') && readSum(text, open + 1) && text.sign(')');
            }
            if (!text.word()) {
                return false;
            }
            if (text.wordIs("least")) {
                return text.allow(open < MOST_OPEN) && readPair(text, open + 1) && emit(LEAST);
            }
            if (text.wordIs("most")) {
                return text.allow(open < MOST_OPEN) && readPair(text, open + 1) && emit(MOST);
            }
            int which = whichSeen(text);
            return which == NONE ? text.fail(MISPLACED, text.start) : emit(SEEN + which);
        }

        private boolean readPair(Text text, int open) {
            return text.sign('[') && readSum(text, open)
                && text.sign(',') && readSum(text, open) && text.sign(']');
        }

        private static int whichSeen(Text text) {
            if (text.wordIs("press")) {
                return PRESS;
            }
            if (text.wordIs("size")) {
                return SIZE;
            }
            if (text.wordIs("nap")) {
                return NAP;
            }
            if (text.wordIs("damp")) {
                return DAMP;
            }
            if (text.wordIs("under")) {
                return UNDER;
            }
            if (text.wordIs("shots")) {
                return SHOTS;
            }
            if (text.wordIs("cell")) {
                return CELL;
            }
            if (text.wordIs("day")) {
                return DAY;
            }
            return text.wordIs("coins") ? COINS : NONE;
        }

        /** A code for each byte has room, and each code has a byte of its own: it always finds a place. */
        private boolean emit(int one) {
            if (draftLength >= 0 && draftLength < draftCode.length) {
                draftCode[draftLength] = one;
                draftLength++;
            }
            return true;
        }

        /** How far it flies by this press, all else being as seen. */
        int flightBy(int press) {
            seen[PRESS] = press;
            int top = 0;
            for (int i = 0; i < length; i++) {
                int one = code[i];
                if (one >= OPERATOR) {
                    if (top >= 2) {
                        top--;
                        stack[top - 1] = worked(one, stack[top - 1], stack[top]);
                    }
                } else if (top < stack.length) {
                    stack[top] = one < SEEN ? one : seen[one - SEEN];
                    top++;
                }
            }
            return Math.max(0, Math.min(stack[0], MOST_FLIGHT));
        }

        private static int worked(int operator, int a, int b) {
            switch (operator) {
                case PLUS: return a + b;
                case MINUS: return a - b;
                case TIMES: return a * b;
                case OVER: return b == 0 ? 0 : a / b;
                case LEAST: return a <= b ? a : b;
                default: return a >= b ? a : b;
            }
        }
    }

    /** All that PLAY changes, and the moves that change it. */
    private static final class Board {
        private static final int ROW = 3 * MOST_WINKS + MOST_HOUSES + 2;

        private final Room room;
        private final Law law;
        /** The CELL of a WINK; FLOOR; IN_CUP less the CUP's number. */
        private final int[] cells = new int[MOST_WINKS];
        private final int[] unders = new int[MOST_WINKS];
        private final int[] shots = new int[MOST_WINKS];
        private final int[] coins = new int[MOST_HOUSES];
        private final int[] heights = new int[MOST_CELLS];
        private int day;
        private int damp;

        Board(Room room, Law law) {
            this.room = room;
            this.law = law;
        }

        void begin() {
            day = 0;
            damp = 0;
            for (int x = 0; x < MOST_CELLS; x++) {
                heights[x] = 0;
            }
            for (int h = 0; h < room.houses; h++) {
                coins[h] = room.coins[h];
            }
            for (int w = 0; w < room.winks; w++) {
                shots[w] = 0;
                layOnTop(w, room.places[w]);
            }
        }

        void save(int[] row) {
            if (row.length < ROW) {
                return;
            }
            System.arraycopy(cells, 0, row, 0, MOST_WINKS);
            System.arraycopy(unders, 0, row, MOST_WINKS, MOST_WINKS);
            System.arraycopy(shots, 0, row, 2 * MOST_WINKS, MOST_WINKS);
            System.arraycopy(coins, 0, row, 3 * MOST_WINKS, MOST_HOUSES);
            row[ROW - 2] = day;
            row[ROW - 1] = damp;
        }

        void load(int[] row) {
            if (row.length < ROW) {
                return;
            }
            System.arraycopy(row, 0, cells, 0, MOST_WINKS);
            System.arraycopy(row, MOST_WINKS, unders, 0, MOST_WINKS);
            System.arraycopy(row, 2 * MOST_WINKS, shots, 0, MOST_WINKS);
            System.arraycopy(row, 3 * MOST_WINKS, coins, 0, MOST_HOUSES);
            day = row[ROW - 2];
            damp = row[ROW - 1];
            for (int x = 0; x < MOST_CELLS; x++) {
                heights[x] = 0;
            }
            for (int w = 0; w < room.winks; w++) {
                if (isOnFelt(w)) {
                    heights[cells[w]]++;
                }
            }
        }

        boolean isOnFelt(int w) {
            return cells[w] >= 0 && cells[w] < MOST_CELLS;
        }

        int onTopOf(int w) {
            int x = cells[w];
            return x >= 0 && x < MOST_CELLS ? heights[x] - 1 - unders[w] : 0;
        }

        /** It can be flicked, if coins are not asked. */
        boolean isFree(int w) {
            return isOnFelt(w) && onTopOf(w) == 0;
        }

        boolean isFrozen(int w) {
            return onTopOf(w) > 0;
        }

        int freeBits() {
            int bits = 0;
            for (int w = 0; w < room.winks; w++) {
                bits |= isFree(w) ? 1 << w : 0;
            }
            return bits;
        }

        int frozenBits() {
            int bits = 0;
            for (int w = 0; w < room.winks; w++) {
                bits |= isFrozen(w) ? 1 << w : 0;
            }
            return bits;
        }

        int inCupBits() {
            int bits = 0;
            for (int w = 0; w < room.winks; w++) {
                bits |= cells[w] <= IN_CUP ? 1 << w : 0;
            }
            return bits;
        }

        int floorBits() {
            int bits = 0;
            for (int w = 0; w < room.winks; w++) {
                bits |= cells[w] == FLOOR ? 1 << w : 0;
            }
            return bits;
        }

        int howManyIn(int c) {
            int many = 0;
            for (int w = 0; w < room.winks; w++) {
                many += cells[w] == IN_CUP - c ? 1 : 0;
            }
            return many;
        }

        /** The WINK with so many under it at a CELL. */
        int lyingAt(int x, int under) {
            for (int w = 0; w < room.winks; w++) {
                if (cells[w] == x && unders[w] == under) {
                    return w;
                }
            }
            return NONE;
        }

        /** What all HOUSES give, if none gives more than the bound. */
        int givenWithin(int bound) {
            int sum = 0;
            for (int h = 0; h < room.houses; h++) {
                sum += Math.min(coins[h], bound);
            }
            return sum;
        }

        /** Tells the LAW all but the press, as the WINK lies. */
        void showLaw(int w) {
            law.seen[Law.SIZE] = room.sizes[w];
            law.seen[Law.NAP] = room.nap;
            law.seen[Law.DAMP] = damp;
            law.seen[Law.UNDER] = unders[w];
            law.seen[Law.SHOTS] = shots[w];
            law.seen[Law.CELL] = cells[w];
            law.seen[Law.DAY] = day;
            law.seen[Law.COINS] = coins[room.owners[w]];
        }

        int flight(int w, int press) {
            if (!isOnFelt(w)) {
                return 0;
            }
            showLaw(w);
            return law.flightBy(press);
        }

        /** The CELL to which a WINK on the felt comes; FLOOR. */
        int landing(int w, int press, int how) {
            int far = flight(w, press);
            int to = how == 0 ? cells[w] + far : cells[w] - far;
            return to >= 0 && to < room.felt ? to : FLOOR;
        }

        /** A WINK on the felt goes so far to the right (below 0: to the left): the CUP that it comes IN; NONE. */
        int fly(int w, int far) {
            if (far == 0 || !isOnFelt(w)) {
                return NONE;
            }
            int to = cells[w] + far;
            lift(w);
            if (to < 0 || to >= room.felt) {
                cells[w] = FLOOR;
                return NONE;
            }
            int into = room.cupAt(to);
            if (into == NONE) {
                layOnTop(w, to);
            } else {
                cells[w] = IN_CUP - into;
            }
            return into;
        }

        private void lift(int w) {
            int from = cells[w];
            for (int v = 0; v < room.winks; v++) {
                if (cells[v] == from && unders[v] > unders[w]) {
                    unders[v]--;
                }
            }
            heights[from]--;
            unders[w] = 0;
        }

        private void layOnTop(int w, int x) {
            cells[w] = x;
            unders[w] = heights[x];
            heights[x]++;
        }

        boolean flick(int w, int press, int how) {
            int payer = room.owners[w];
            if (!isFree(w) || coins[payer] < 1) {
                return false;
            }
            int far = flight(w, press);
            coins[payer]--;
            shots[w]++;
            int into = fly(w, how == 0 ? far : -far);
            if (into != NONE) {
                coins[payer] = Math.min(coins[payer] + room.cupPays[into], MOST_COINS);
            }
            return true;
        }

        boolean dampen(int n) {
            boolean other = damp != n;
            damp = n;
            return other;
        }

        boolean shakeAll() {
            int free = freeBits();
            for (int w = 0; w < room.winks; w++) {
                if ((free >> w & 1) == 1) {
                    fly(w, 1);
                }
            }
            return free != 0;
        }

        boolean endDay() {
            if (day >= LAST_DAY) {
                return false;
            }
            passDay();
            return true;
        }

        void passDay() {
            for (int w = 0; w < room.winks; w++) {
                if (isFrozen(w)) {
                    payRent(w);
                }
            }
            day++;
        }

        private void payRent(int w) {
            int payer = room.owners[w];
            int top = lyingAt(cells[w], unders[w] + onTopOf(w));
            if (top == NONE || coins[payer] < 1) {
                return;
            }
            int taker = room.owners[top];
            coins[payer]--;
            coins[taker] = Math.min(coins[taker] + 1, MOST_COINS);
        }
    }

    /** A PLAY as it was read, and how it was done. */
    private static final class Steps {
        private static final int FLICK = 0;
        private static final int BACK = 1;
        private static final int DAMP = 2;
        private static final int SHAKE = 3;
        private static final int DAY = 4;
        private static final int AGAIN = 5;

        private static final int MOST_BEGUN = 200;
        /** The shortest STEP, with its ";", has four bytes. */
        private static final int MOST_READ = PLAY_BYTES / 4 + 1;

        private final int[] kinds = new int[MOST_READ];
        private final int[] firsts = new int[MOST_READ];
        private final int[] seconds = new int[MOST_READ];
        private int size;
        private int winks;
        private int begun;
        private int done;
        private int refused;

        boolean readFrom(Text text, int winksThere) {
            size = 0;
            winks = winksThere;
            return readRow(text, 0);
        }

        private boolean readRow(Text text, int open) {
            int closing = open == 0 ? NONE : ']';
            for (int i = 0; i < PLAY_BYTES && text.peek() != closing; i++) {
                if (!readStep(text, open) || !text.sign(';')) {
                    return false;
                }
            }
            return true;
        }

        private boolean readStep(Text text, int open) {
            if (!text.word()) {
                return false;
            }
            if (text.wordIs("flick")) {
                return readFlick(text, FLICK);
            }
            if (text.wordIs("back")) {
                return readFlick(text, BACK);
            }
            if (text.wordIs("damp")) {
                return text.number(0, 9) && add(DAMP, text.value, 0);
            }
            if (text.wordIs("shake")) {
                return add(SHAKE, 0, 0);
            }
            if (text.wordIs("day")) {
                return add(DAY, 0, 0);
            }
            if (text.wordIs("again")) {
                return text.allow(open < MOST_OPEN) && readAgain(text, open + 1);
            }
            return text.fail(MISPLACED, text.start);
        }

        private boolean readFlick(Text text, int kind) {
            if (!text.number(0, winks - 1)) {
                return false;
            }
            int w = text.value;
            return text.number(1, MOST_PRESS) && add(kind, w, text.value);
        }

        private boolean readAgain(Text text, int open) {
            if (!text.number(0, 30)) {
                return false;
            }
            int mine = size;
            add(AGAIN, text.value, 0);
            if (!text.sign('[') || !readRow(text, open) || !text.sign(']')) {
                return false;
            }
            if (mine < seconds.length) {
                seconds[mine] = size;
            }
            return true;
        }

        private boolean add(int kind, int first, int second) {
            if (size >= 0 && size < kinds.length) {
                kinds[size] = kind;
                firsts[size] = first;
                seconds[size] = second;
                size++;
            }
            return true;
        }

        void run(Board board) {
            begun = 0;
            done = 0;
            refused = 0;
            runRow(board, 0, size, 0);
        }

        private void runRow(Board board, int from, int to, int open) {
            int i = from;
            while (i < to && begun < MOST_BEGUN) {
                begun++;
                if (kinds[i] == AGAIN) {
                    for (int k = 0; k < firsts[i] && begun < MOST_BEGUN && open < MOST_OPEN; k++) {
                        runRow(board, i + 1, seconds[i], open + 1);
                    }
                    i = Math.max(seconds[i], i + 1);
                } else {
                    boolean fine = isDone(board, kinds[i], firsts[i], seconds[i]);
                    done += fine ? 1 : 0;
                    refused += fine ? 0 : 1;
                    i++;
                }
            }
        }

        private static boolean isDone(Board board, int kind, int first, int second) {
            switch (kind) {
                case FLICK: return board.flick(first, second, 0);
                case BACK: return board.flick(first, second, 1);
                case DAMP: return board.dampen(first);
                case SHAKE: return board.shakeAll();
                default: return board.endDay();
            }
        }
    }

    /** A BOOK, and what can be told by it of nap and damp. */
    private static final class Book {
        private static final int PAIRS = 100;

        private final Board board;
        private final Law law;
        /** By press: how far it flew; NONE without a line. */
        private final int[] flown = new int[MOST_PRESS + 1];
        private final int[] draftFlown = new int[MOST_PRESS + 1];
        private final int[] fitting = new int[PAIRS];
        private final int[] tally = new int[MOST_FLIGHT + 1];
        private int lines;
        private int pairs;
        private int firstPair;
        private int nextPress;
        private int leftAtWorst;

        Book(Board board, Law law) {
            this.board = board;
            this.law = law;
            wipe();
        }

        void wipe() {
            lines = 0;
            for (int press = 0; press <= MOST_PRESS; press++) {
                flown[press] = NONE;
            }
        }

        boolean readFrom(Text text) {
            int read = 0;
            for (int press = 0; press <= MOST_PRESS; press++) {
                draftFlown[press] = NONE;
            }
            for (int i = 0; i < BOOK_BYTES && text.peek() != NONE; i++) {
                if (!readLine(text)) {
                    return false;
                }
                read++;
            }
            System.arraycopy(draftFlown, 0, flown, 0, MOST_PRESS + 1);
            lines = read;
            return true;
        }

        private boolean readLine(Text text) {
            if (!text.number(1, MOST_PRESS)) {
                return false;
            }
            int press = text.value;
            if (draftFlown[press] != NONE) {
                return text.fail(NO_SUCH_NUMBER, text.start);
            }
            if (!text.number(0, MOST_FLIGHT)) {
                return false;
            }
            draftFlown[press] = text.value;
            return text.sign(';');
        }

        /** FITS: the pairs, in order, are the first ones in fitting. */
        void seekPairs(int w) {
            board.showLaw(w);
            pairs = 0;
            for (int pair = 0; pair < PAIRS; pair++) {
                if (isFitting(w, pair)) {
                    fitting[pairs] = pair;
                    pairs++;
                }
            }
            firstPair = pairs == 0 ? NONE : fitting[0];
        }

        private boolean isFitting(int w, int pair) {
            for (int press = 1; press <= MOST_PRESS; press++) {
                if (flown[press] != NONE && flown[press] != flightAsIf(w, press, pair)) {
                    return false;
                }
            }
            return true;
        }

        /** All else being as seekPairs() showed it to the LAW. */
        private int flightAsIf(int w, int press, int pair) {
            if (!board.isOnFelt(w)) {
                return 0;
            }
            law.seen[Law.NAP] = pair / 10;
            law.seen[Law.DAMP] = pair % 10;
            return law.flightBy(press);
        }

        /** LOOK. */
        void seekPress(int w) {
            seekPairs(w);
            nextPress = NONE;
            leftAtWorst = NONE;
            for (int press = 1; press <= MOST_PRESS; press++) {
                if (flown[press] != NONE) {
                    continue;
                }
                int worst = worstLeft(w, press);
                if (nextPress == NONE || worst < leftAtWorst) {
                    nextPress = press;
                    leftAtWorst = worst;
                }
            }
        }

        private int worstLeft(int w, int press) {
            for (int far = 0; far <= MOST_FLIGHT; far++) {
                tally[far] = 0;
            }
            int worst = 0;
            for (int i = 0; i < pairs; i++) {
                int far = flightAsIf(w, press, fitting[i]);
                tally[far]++;
                worst = Math.max(worst, tally[far]);
            }
            return worst;
        }
    }

    /** What can be reached by flicks, as all lies now. */
    private static final class Aim {
        private final Room room;
        private final Board board;
        private final Law law;
        private final int[] queue = new int[MOST_CELLS];
        /** By CELL: how many flicks lead there (NONE: not reached), and the first of them. */
        private final int[] flicks = new int[MOST_CELLS];
        private final int[] starts = new int[MOST_CELLS];
        private final int[] comers = new int[MOST_CUPS];
        private final int[] given = new int[MOST_CUPS];
        private int queued;
        private int most;
        private int firstFlick;
        private int above;
        private int below;

        Aim(Room room, Board board, Law law) {
            this.room = room;
            this.board = board;
            this.law = law;
        }

        /** The CUP that a WINK comes IN; NONE, also if it can't be flicked. */
        int cupHit(int w, int press, int how) {
            int far = board.isFree(w) ? board.flight(w, press) : 0;
            if (far == 0) {
                return NONE;
            }
            return room.cupAt(how == 0 ? board.cells[w] + far : board.cells[w] - far);
        }

        private int paidFor(int w, int press, int how) {
            int into = cupHit(w, press, how);
            return into == NONE ? 0 : room.cupPays[into];
        }

        /** GAIN: in most and firstFlick. */
        void seekGain(int house) {
            most = 0;
            firstFlick = NONE;
            for (int w = 0; w < room.winks; w++) {
                if (room.owners[w] == house && board.isFree(w)) {
                    seekGainOf(w);
                }
            }
        }

        private void seekGainOf(int w) {
            for (int press = 1; press <= MOST_PRESS; press++) {
                for (int how = 0; how <= 1; how++) {
                    int paid = paidFor(w, press, how);
                    if (firstFlick == NONE || paid > most) {
                        most = paid;
                        firstFlick = 100 * w + 10 * press + how;
                    }
                }
            }
        }

        /**
         * WAY: in most and firstFlick. CELLS are gone through as they are reached, so those that as few flicks
         * lead to stand in the order of their first flicks, and the first CUP that is hit has the answer.
         */
        void seekWay(int w) {
            most = NONE;
            firstFlick = NONE;
            if (!board.isFree(w)) {
                return;
            }
            for (int x = 0; x < MOST_CELLS; x++) {
                flicks[x] = NONE;
            }
            queued = 0;
            reach(board.cells[w], 0, NONE);
            for (int i = 0; i < queue.length && i < queued && most == NONE; i++) {
                seekWayFrom(w, queue[i]);
            }
        }

        private void reach(int x, int many, int start) {
            if (flicks[x] == NONE && queued < queue.length) {
                flicks[x] = many;
                starts[x] = start;
                queue[queued] = x;
                queued++;
            }
        }

        private void seekWayFrom(int w, int x) {
            board.showLaw(w);
            law.seen[Law.CELL] = x;
            law.seen[Law.UNDER] = x == board.cells[w] ? board.unders[w] : board.heights[x];
            for (int press = 1; press <= MOST_PRESS && most == NONE; press++) {
                int far = law.flightBy(press);
                for (int how = 0; how <= 1 && far > 0 && most == NONE; how++) {
                    int start = starts[x] == NONE ? 10 * press + how : starts[x];
                    goOn(how == 0 ? x + far : x - far, flicks[x] + 1, start);
                }
            }
        }

        private void goOn(int to, int many, int start) {
            if (to < 0 || to >= room.felt) {
                return;
            }
            if (room.cupAt(to) == NONE) {
                reach(to, many, start);
            } else {
                most = many;
                firstFlick = start;
            }
        }

        /** ODDS, or MEAN, if what is paid counts: in above and below. */
        void weighThumb(int w, int press, int q, boolean paid) {
            int less = worthOf(w, Math.max(press - 1, 1), paid);
            int more = worthOf(w, Math.min(press + 1, MOST_PRESS), paid);
            above = 2 * q * worthOf(w, press, paid) + (16 - q) * (less + more);
            below = 32;
            while (below > 1 && above % 2 == 0) {
                above /= 2;
                below /= 2;
            }
        }

        private int worthOf(int w, int press, boolean paid) {
            int coins = paidFor(w, press, 0);
            return paid ? coins : Math.min(coins, 1);
        }

        /** MATCH: V together; the WINKS are in given. */
        int giveCups() {
            findComers();
            int best = bestFrom(0, 0);
            int rest = best;
            int used = 0;
            for (int c = 0; c < room.cups; c++) {
                given[c] = firstFor(c, used, rest);
                if (given[c] != NONE) {
                    used |= 1 << given[c];
                    rest -= room.cupPays[c];
                }
            }
            return best;
        }

        private void findComers() {
            for (int c = 0; c < room.cups; c++) {
                comers[c] = 0;
            }
            for (int w = 0; w < room.winks; w++) {
                for (int press = 1; press <= MOST_PRESS; press++) {
                    for (int how = 0; how <= 1; how++) {
                        int into = cupHit(w, press, how);
                        if (into != NONE) {
                            comers[into] |= 1 << w;
                        }
                    }
                }
            }
        }

        /** The first WINK by which this CUP and those behind it still make up the rest. */
        private int firstFor(int c, int used, int rest) {
            for (int w = 0; w < room.winks; w++) {
                int bit = 1 << w;
                if ((comers[c] & ~used & bit) != 0 && room.cupPays[c] + bestFrom(c + 1, used | bit) == rest) {
                    return w;
                }
            }
            return NONE;
        }

        /** The most that CUPS from this one on make, with WINKS that are not used. */
        private int bestFrom(int first, int used) {
            int best = 0;
            for (int set = 0; set < 1 << room.cups; set++) {
                if ((set & ((1 << first) - 1)) == 0) {
                    int pays = paysOf(set);
                    if (pays > best && canAllBeGiven(set, used)) {
                        best = pays;
                    }
                }
            }
            return best;
        }

        private int paysOf(int set) {
            int pays = 0;
            for (int c = 0; c < room.cups; c++) {
                pays += (set >> c & 1) * room.cupPays[c];
            }
            return pays;
        }

        /** By Hall: they can, if among any of them together there are as many WINKS as CUPS. */
        private boolean canAllBeGiven(int set, int used) {
            for (int part = 1; part <= set; part++) {
                if ((part & ~set) == 0 && Integer.bitCount(comersOf(part) & ~used) < Integer.bitCount(part)) {
                    return false;
                }
            }
            return true;
        }

        private int comersOf(int set) {
            int bits = 0;
            for (int c = 0; c < room.cups; c++) {
                if ((set >> c & 1) == 1) {
                    bits |= comers[c];
                }
            }
            return bits;
        }
    }

    /** Two WINKS flicked at once, by each press of both. */
    private static final class Duel {
        private final Room room;
        private final Board board;
        private final int[] oneLands = new int[MOST_PRESS + 1];
        private final int[] onePaid = new int[MOST_PRESS + 1];
        private final int[] otherLands = new int[MOST_PRESS + 1];
        private final int[] otherPaid = new int[MOST_PRESS + 1];
        private int oneClash;
        private int rests;
        private int first;
        private int together;

        Duel(Room room, Board board) {
            this.room = room;
            this.board = board;
        }

        void fight(int one, int other) {
            oneClash = one < other ? -1 : 1;
            rests = 0;
            first = NONE;
            together = 0;
            measure(one, oneLands, onePaid);
            measure(other, otherLands, otherPaid);
            for (int p = 1; p <= MOST_PRESS; p++) {
                for (int q = 1; q <= MOST_PRESS; q++) {
                    if (isRest(p, q)) {
                        note(p, q);
                    }
                }
            }
        }

        private void measure(int w, int[] lands, int[] paid) {
            for (int press = 1; press < lands.length && press < paid.length; press++) {
                int to = board.landing(w, press, 0);
                int into = to == board.cells[w] ? NONE : room.cupAt(to);
                lands[press] = to;
                paid[press] = into == NONE ? 0 : room.cupPays[into];
            }
        }

        private void note(int p, int q) {
            if (rests == 0) {
                first = 10 * p + q;
                together = oneHas(p, q) + otherHas(p, q);
            }
            rests++;
        }

        private boolean isRest(int p, int q) {
            int one = oneHas(p, q);
            int other = otherHas(p, q);
            for (int r = 1; r <= MOST_PRESS; r++) {
                if (oneHas(r, q) > one || otherHas(p, r) > other) {
                    return false;
                }
            }
            return true;
        }

        private int oneHas(int p, int q) {
            return onePaid[p] + clash(p, q) * oneClash;
        }

        private int otherHas(int p, int q) {
            return otherPaid[q] - clash(p, q) * oneClash;
        }

        /** 1, if both come down in one CELL that is no CUP's. */
        private int clash(int p, int q) {
            int to = oneLands[p];
            return to >= 0 && to == otherLands[q] && room.cupAt(to) == NONE ? 1 : 0;
        }
    }

    /** A SEASON on a board. */
    private static final class Season {
        private final Room room;
        private final Board board;
        private int seed;
        private int done;

        Season(Room room, Board board) {
            this.room = room;
            this.board = board;
        }

        void run(int firstSeed, int q, int flicks) {
            seed = firstSeed;
            done = 0;
            if (room.winks == 0) {
                return;
            }
            for (int i = 1; i <= flicks; i++) {
                int w = draw(room.winks);
                int press = draw(MOST_PRESS) + 1;
                int how = draw(2);
                if (board.flick(w, press, how)) {
                    done++;
                }
                if (draw(16) < q) {
                    board.shakeAll();
                }
                if (i % 4 == 0) {
                    board.passDay();
                }
            }
        }

        private int draw(int by) {
            seed = seed * 1103515245 + 12345;
            return by < 1 ? 0 : (seed >>> 16 & 32767) % by;
        }
    }

    /** The board as it was kept once, and the PLAYS that could be undone then, each kept as it was ahead of it. */
    private static final class Kept {
        private final int[] row = new int[Board.ROW];
        private final Kept below;
        private final int depth;

        Kept(Kept below) {
            this.below = below;
            this.depth = below == null ? 1 : below.depth + 1;
        }
    }
}
