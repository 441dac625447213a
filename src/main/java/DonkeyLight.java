import java.util.NoSuchElementException;

/** A lantern on a donkey; the promises of DOC.md say what each call answers. */
public final class DonkeyLight {
    public static final int NONE = -1;

    private static final int MOST_CELLS = 12;
    private static final int MOST_LIGHTS = 6;
    private static final int MOST_DONKEYS = 3;
    private static final int MOST_SHIPS = 6;
    private static final int MOST_DOORS = 6;
    private static final int MOST_CLAUSES = 60;
    private static final int MOST_OPEN = 6;
    private static final int LONGEST_PERIOD = 9;
    private static final int TAPE_BYTES = 600;
    private static final int LAW_BYTES = 150;
    private static final int WORK_BYTES = 150;
    private static final int LOG_BYTES = 100;
    private static final int NO_ROOM_FOR_WORK = -20;

    private final Tape tape = new Tape();
    private final Coast coast = new Coast();
    private final Coast coastDraft = new Coast();
    private final Law law = new Law();
    private final Law lawDraft = new Law();
    private final FlashLog log = new FlashLog();
    private final FlashLog logDraft = new FlashLog();
    private final Work work = new Work();
    private final Nights nights = new Nights();
    private final Passing passing = new Passing();
    private final Plans plans = new Plans();
    private final Winter winter = new Winter();
    private final History history = new History();
    private final Row madeRows = new Row(1 << Coast.LONGEST_CODE);
    private int refusedSteps;
    private int missingCalls;
    private int wrongCalls;

    public DonkeyLight() {
    }

    public int feed(int a, int b, int c, int d, int e) {
        if (tape.held() + 20 > TAPE_BYTES) {
            return NONE;
        }
        tape.append(a);
        tape.append(b);
        tape.append(c);
        tape.append(d);
        tape.append(e);
        return tape.held();
    }

    public int coast(int n) throws IllegalArgumentException {
        openText(n, TAPE_BYTES);
        coastDraft.readFrom(tape);
        if (!tape.fine()) {
            return tape.answer();
        }
        coast.become(coastDraft);
        law.reset();
        log.reset();
        history.reset();
        nights.reset(coast);
        refusedSteps = 0;
        return coast.many.get(Coast.SHIP);
    }

    public int law(int n) throws IllegalArgumentException {
        openText(n, LAW_BYTES);
        lawDraft.readFrom(tape);
        if (!tape.fine()) {
            return tape.answer();
        }
        law.become(lawDraft);
        return 1;
    }

    public int work(int n) throws IllegalArgumentException {
        openText(n, WORK_BYTES);
        if (history.works() >= History.MOST_WORKS) {
            return NO_ROOM_FOR_WORK;
        }
        work.readFrom(tape, coast);
        if (!tape.fine()) {
            return tape.answer();
        }
        history.keepWork(nights);
        work.run(coast, law, nights, passing);
        refusedSteps = work.refused();
        return work.done();
    }

    public int log(int n) throws IllegalArgumentException {
        openText(n, LOG_BYTES);
        logDraft.readFrom(tape);
        if (!tape.fine()) {
            return tape.answer();
        }
        log.become(logDraft);
        return log.lines();
    }

    public int fault() {
        return tape.faultPlace();
    }

    public int undo() {
        if (history.works() == 0) {
            return NONE;
        }
        refusedSteps = 0;
        return history.undoWork(nights);
    }

    public int told(int what) throws IllegalArgumentException {
        needWithin(what, 0, 12);
        if (what <= 4) {
            return coast.many.get(what);
        }
        if (what == 11) {
            return log.lines();
        }
        return what == 12 ? refusedSteps : nights.get(Nights.NIGHT + what - 5);
    }

    public int cell(int cell, int what) throws NoSuchElementException, IllegalArgumentException {
        needThere(Coast.CELL, cell);
        needWithin(what, 0, 3);
        switch (what) {
            case 0:
                return coast.reefs.get(cell);
            case 1:
                return nights.lightsIn(coast, cell);
            case 2:
                return nights.donkeysIn(coast, cell);
            default:
                return nights.get(Nights.CELL_STRUCK + cell);
        }
    }

    public int light(int light, int what) throws NoSuchElementException, IllegalArgumentException {
        needThere(Coast.LIGHT, light);
        needWithin(what, 0, 2);
        if (what == 2) {
            return nights.burns(light) ? 1 : 0;
        }
        return what == 0 ? coast.lightCells.get(light) : coast.lightPeriods.get(light);
    }

    public int donkey(int donkey, int what) throws NoSuchElementException, IllegalArgumentException {
        needThere(Coast.DONKEY, donkey);
        needWithin(what, 0, 1);
        return what == 0 ? nights.get(Nights.STANDS + donkey) : coast.donkeyPeriods.get(donkey);
    }

    public int ship(int ship, int what) throws NoSuchElementException, IllegalArgumentException {
        needThere(Coast.SHIP, ship);
        needWithin(what, 0, 5);
        if (what == 4) {
            return nights.passed(ship) ? 1 : 0;
        }
        return what == 5 ? nights.get(Nights.SHIP_STRUCK + ship) : coast.shipNumber(ship, what);
    }

    public int seen(int cell, int minute) throws NoSuchElementException, IllegalArgumentException {
        needThere(Coast.CELL, cell);
        needWithin(minute, 0, 99);
        return flashesSeen(cell, minute);
    }

    public boolean would(int ship, int seen, int dark, int minute, int cell, int night, int fog)
            throws NoSuchElementException, IllegalArgumentException {
        needThere(Coast.SHIP, ship);
        needWithin(seen, 0, 20);
        needWithin(dark, 0, 20);
        needWithin(minute, 0, MOST_CELLS - 1);
        needWithin(cell, 0, MOST_CELLS - 1);
        needWithin(night, 0, Nights.LAST_NIGHT);
        needWithin(fog, 0, 1);
        law.tellNight(night, fog);
        law.tellShip(coast, ship, seen, dark, minute, cell);
        return law.steersIn();
    }

    public int tried(int ship, int what) throws NoSuchElementException, IllegalArgumentException {
        needThere(Coast.SHIP, ship);
        needWithin(what, 0, 4);
        passing.begin(coast, law, nights);
        int where = passing.struckIn(coast, law, ship);
        switch (what) {
            case 0:
                return where;
            case 1:
                return passing.steeredCells(coast, law, ship, where);
            case 2:
                return coast.alive(ship, where);
            case 3:
                return coast.parishCargo(ship, where);
            default:
                return passing.flashesTo(coast, where);
        }
    }

    public int safe() {
        passing.begin(coast, law, nights);
        int ships = 0;
        for (int ship = 0; ship < coast.many.get(Coast.SHIP); ship++) {
            if (passing.struckIn(coast, law, ship) == NONE) {
                ships |= 1 << ship;
            }
        }
        return ships;
    }

    public int put(int ships, int what) throws IllegalArgumentException {
        needShips(ships);
        needWithin(what, 0, 1);
        plans.placeDonkeys(coast, law, nights, passing, ships);
        return what == 0 ? plans.worth() : plans.donkeyCells();
    }

    public int save(int what) throws IllegalArgumentException {
        needWithin(what, 0, 2);
        if (coast.many.get(Coast.CELL) == 0) {
            return NONE;
        }
        plans.placeLamp(coast, law, nights, passing);
        if (what == 0) {
            return plans.worth();
        }
        return what == 1 ? plans.lampCell() : plans.lampPeriod();
    }

    public int fits(int what) throws IllegalArgumentException {
        needWithin(what, 0, 1);
        return what == 0 ? log.fitting() : log.firstFit();
    }

    public int look(int what) throws IllegalArgumentException {
        needWithin(what, 0, 1);
        int minute = log.bestMinute();
        return what == 0 ? minute : log.leftAtWorst(minute);
    }

    public int code(int n, int what) throws IllegalArgumentException {
        needWithin(n, 1, Coast.LONGEST_CODE);
        needWithin(what, 0, 1);
        coast.markMadeRows(n, madeRows);
        return what == 0 ? (1 << n) - madeRows.sum() : firstUnmade(n);
    }

    public int shortest() {
        for (int n = 1; n <= Coast.LONGEST_CODE; n++) {
            coast.markMadeRows(n, madeRows);
            if (firstUnmade(n) != NONE) {
                return n;
            }
        }
        return NONE;
    }

    public long wink(int a, int p, int q, int l, int n, int part) throws IllegalArgumentException {
        needWithin(a, 0, 16);
        needWithin(p, 0, 16);
        needWithin(q, 0, 16);
        needWithin(n, 0, 6);
        needWithin(l, 0, n);
        needWithin(part, 0, 1);
        long winks = a * power(p, l) * power(16 - p, n - l);
        long all = winks + (16 - a) * power(q, l) * power(16 - q, n - l);
        if (winks == 0) {
            return part;
        }
        long common = commonDivisor(all, winks);
        if (common == 0) {
            return part;
        }
        return part == 0 ? winks / common : all / common;
    }

    public int carriers(int what) throws IllegalArgumentException {
        needWithin(what, 0, 2);
        if (what == 0) {
            return coast.rests();
        }
        int first = coast.firstRest();
        if (what == 1) {
            return first;
        }
        return first == NONE ? 0 : coast.carriersHave(first / 100, first % 100);
    }

    public int share(int door, int n) throws NoSuchElementException, IllegalArgumentException {
        needThere(Coast.DOOR, door);
        needWithin(n, 0, 999);
        return coast.shareOf(door, n);
    }

    public int drawn(int cell) throws NoSuchElementException {
        needThere(Coast.CELL, cell);
        int ships = 0;
        for (int ship = 0; ship < coast.many.get(Coast.SHIP); ship++) {
            if (coast.strikes(ship, cell)) {
                ships |= 1 << ship;
            }
        }
        return ships;
    }

    public int flash(int light, int m) throws NoSuchElementException, IllegalArgumentException {
        needThere(Coast.LIGHT, light);
        needWithin(m, 0, 99);
        int period = coast.lightPeriods.get(light);
        int over = left(m, period);
        return over == 0 ? m : m + period - over;
    }

    public int alike(int donkey, int light, int what) throws NoSuchElementException, IllegalArgumentException {
        needThere(Coast.DONKEY, donkey);
        needThere(Coast.LIGHT, light);
        needWithin(what, 0, 1);
        int minutes = 0;
        for (int m = 0; m < 30; m++) {
            boolean one = flashesIn(m, coast.donkeyPeriods.get(donkey));
            boolean other = flashesIn(m, coast.lightPeriods.get(light));
            if (what == 0 ? one && other : one != other) {
                minutes |= 1 << m;
            }
        }
        return minutes;
    }

    public int blind(int ship) throws NoSuchElementException {
        needThere(Coast.SHIP, ship);
        passing.begin(coast, law, nights);
        return passing.firstBlind(coast, passing.struckIn(coast, law, ship));
    }

    public int reefs(int what) throws IllegalArgumentException {
        needWithin(what, 0, 2);
        if (what == 2) {
            return coast.allReefs();
        }
        int first = coast.longestReefFirst();
        return what == 1 ? first : coast.reefRowFrom(first);
    }

    public int brightest(int what) throws IllegalArgumentException {
        needWithin(what, 0, 1);
        int best = NONE;
        int most = NONE;
        for (int cell = 0; cell < coast.many.get(Coast.CELL); cell++) {
            int flashes = flashesSeen(cell, cell);
            if (flashes > most) {
                best = cell;
                most = flashes;
            }
        }
        return what == 0 ? best : most;
    }

    public int wrecks(int ships, int what) throws IllegalArgumentException {
        needShips(ships);
        needWithin(what, 0, 2);
        passing.begin(coast, law, nights);
        int sum = 0;
        for (int ship = 0; ship < coast.many.get(Coast.SHIP); ship++) {
            int where = hasBit(ships, ship) ? passing.struckIn(coast, law, ship) : NONE;
            if (where != NONE) {
                sum += wreckNumber(ship, where, what);
            }
        }
        return sum;
    }

    public int winter(int seed, int nights, int q, int what) throws IllegalArgumentException {
        needWithin(nights, 1, Winter.MOST_NIGHTS);
        needWithin(q, 0, 16);
        needWithin(what, 0, 3);
        winter.begin(this.nights, seed);
        winter.live(coast, law, passing, nights, q);
        switch (what) {
            case 0:
                return winter.struck();
            case 1:
                return winter.parish();
            case 2:
                return winter.alive();
            default:
                return winter.foggy();
        }
    }

    public int span(int seed, int many, int nights, int q, int what) throws IllegalArgumentException {
        needWithin(many, 1, 20);
        needWithin(nights, 1, Winter.MOST_NIGHTS);
        needWithin(q, 0, 16);
        needWithin(what, 0, 2);
        int least = Winter.MOST_CARGO;
        int most = 0;
        int calm = 0;
        for (int i = 0; i < many; i++) {
            winter.begin(this.nights, seed + i);
            winter.live(coast, law, passing, nights, q);
            least = Math.min(least, winter.parish());
            most = Math.max(most, winter.parish());
            calm += winter.struck() == 0 ? 1 : 0;
        }
        if (what == 0) {
            return least;
        }
        return what == 1 ? most : calm;
    }

    public int image() {
        return history.images() >= History.MOST_IMAGES ? NONE : history.keepImage(nights);
    }

    public int restore() {
        if (history.images() == 0) {
            return NONE;
        }
        refusedSteps = 0;
        return history.takeImage(nights);
    }

    public int status(int what) {
        if (what == 0) {
            return missingCalls;
        }
        return what == 1 ? wrongCalls : NONE;
    }

    public int count(int what) {
        switch (what) {
            case 0:
                return history.images();
            case 1:
                return tape.held();
            case 2:
                return history.works();
            default:
                return NONE;
        }
    }

    private void openText(int n, int longest) {
        needWithin(n, 0, Math.min(longest, tape.held()));
        tape.open(n);
    }

    private void needThere(int kind, int index) {
        if (index < 0 || index >= coast.many.get(kind)) {
            missingCalls++;
            throw new NoSuchElementException("no such one stands on the coast");
        }
    }

    private void needWithin(int number, int least, int most) {
        if (number < least || number > most) {
            wrongCalls++;
            throw new IllegalArgumentException("a number outside its bounds");
        }
    }

    private void needShips(int ships) {
        needWithin(ships, 0, (1 << coast.many.get(Coast.SHIP)) - 1);
    }

    private int flashesSeen(int cell, int minute) {
        int reach = nights.reach(coast);
        return nights.lightFlashes(coast, cell, minute, reach) + nights.donkeyFlashes(coast, cell, minute, reach);
    }

    private int wreckNumber(int ship, int where, int what) {
        if (what == 0) {
            return 1;
        }
        return what == 1 ? coast.cargo.get(ship) : coast.alive(ship, where);
    }

    private int firstUnmade(int n) {
        for (int row = 0; row < 1 << n; row++) {
            if (madeRows.get(row) == 0) {
                return row;
            }
        }
        return NONE;
    }

    private static long power(int base, int times) {
        long product = 1;
        for (int i = 0; i < times; i++) {
            product *= base;
        }
        return product;
    }

    private static long commonDivisor(long a, long b) {
        for (int i = 0; i < 100 && b != 0; i++) {
            long rest = a % b;
            a = b;
            b = rest;
        }
        return a;
    }

    private static int left(int number, int by) {
        return by == 0 ? 0 : number % by;
    }

    private static int cut(int number, int by) {
        return by == 0 ? 0 : number / by;
    }

    private static boolean flashesIn(int minute, int period) {
        return period != 0 && minute % period == 0;
    }

    private static boolean isSeen(int at, int period, int cell, int minute, int reach) {
        return period != 0 && minute % period == 0 && Math.abs(at - cell) <= reach;
    }

    private static boolean hasBit(int bits, int index) {
        return ((bits >> index) & 1) == 1;
    }

    /** Numbers in a row; a place is tested here, so that no user of a row has to. */
    private static final class Row {
        private final int[] items;

        Row(int length) {
            items = new int[Math.max(length, 0)];
        }

        int get(int index) {
            return index >= 0 && index < items.length ? items[index] : 0;
        }

        void set(int index, int value) {
            if (index >= 0 && index < items.length) {
                items[index] = value;
            }
        }

        void add(int index, int value) {
            if (index >= 0 && index < items.length) {
                items[index] += value;
            }
        }

        void clear() {
            for (int i = 0; i < items.length; i++) {
                items[i] = 0;
            }
        }

        int sum() {
            int all = 0;
            for (int i = 0; i < items.length; i++) {
                all += items[i];
            }
            return all;
        }

        void become(Row other) {
            copyFrom(other, 0, 0, items.length);
        }

        void copyFrom(Row other, int start, int to, int many) {
            for (int i = 0; i < many; i++) {
                set(to + i, other.get(start + i));
            }
        }
    }

    /** The bytes that were fed, and how far the text at their front has been read. */
    private static final class Tape {
        static final int CANT_STAND = 1;
        static final int NO_SUCH_NUMBER = 2;
        static final int TOO_MANY = 3;
        private static final int BLANK = 32;
        /** Far above every number that may stand anywhere, far below what wraps. */
        private static final int TOO_LARGE = 1_000_000;

        private final Row bytes = new Row(TAPE_BYTES);
        private int held;
        private int length;
        /** Never on a blank: what comes next stands here, or the text has ended. */
        private int place;
        private int itemStart;
        private int faultKind;
        private int faultPlace = NONE;

        int held() {
            return held;
        }

        void append(int number) {
            for (int shift = 24; shift >= 0; shift -= 8) {
                bytes.set(held, (number >>> shift) & 255);
                held++;
            }
        }

        /** The bytes stay readable until the next are fed, though the tape counts as empty. */
        void open(int n) {
            length = n;
            held = 0;
            faultKind = 0;
            faultPlace = NONE;
            moveTo(0);
        }

        boolean fine() {
            return faultKind == 0;
        }

        int faultPlace() {
            return faultPlace;
        }

        int answer() {
            return faultKind - 10;
        }

        /** Texts are read from the left, so the fault that is blamed first is the one that counts. */
        private void blame(int kind, int where) {
            if (faultKind == 0) {
                faultKind = kind;
                faultPlace = where;
            }
        }

        /** Blames the item that was read last, at its first byte. */
        void blameItem(int kind) {
            blame(kind, itemStart);
        }

        /** Blames what comes next, if what had to come did not. */
        void require(boolean came) {
            if (!came) {
                blame(CANT_STAND, place);
            }
        }

        private void moveTo(int behind) {
            place = behind;
            while (place < length && bytes.get(place) == BLANK) {
                place++;
            }
        }

        boolean ended() {
            return place >= length;
        }

        boolean nextIs(char sign) {
            return place < length && bytes.get(place) == sign;
        }

        boolean take(char sign) {
            if (faultKind != 0 || place >= length || bytes.get(place) != sign) {
                return false;
            }
            itemStart = place;
            moveTo(place + 1);
            return true;
        }

        boolean digitNext() {
            return place < length && bytes.get(place) >= '0' && bytes.get(place) <= '9';
        }

        int numberIn(int least, int most) {
            require(digitNext());
            itemStart = place;
            int value = 0;
            int behind = place;
            for (; behind < length && bytes.get(behind) >= '0' && bytes.get(behind) <= '9'; behind++) {
                value = Math.min(value * 10 + bytes.get(behind) - '0', TOO_LARGE);
            }
            moveTo(behind);
            if (value < least || value > most) {
                blameItem(NO_SUCH_NUMBER);
            }
            return value;
        }

        /** Which of these words, that blanks part, stands next; a fault and NONE, if none does. */
        int wordOf(String words) {
            itemStart = place;
            int behind = place;
            while (behind < length && bytes.get(behind) >= 'a' && bytes.get(behind) <= 'z') {
                behind++;
            }
            int which = indexOfItem(words, behind);
            moveTo(behind);
            if (which == NONE) {
                blameItem(CANT_STAND);
            }
            return which;
        }

        private int indexOfItem(String words, int behind) {
            int index = 0;
            int at = itemStart;
            boolean same = true;
            for (int i = 0; i <= words.length(); i++) {
                char letter = i < words.length() ? words.charAt(i) : ' ';
                if (letter != ' ') {
                    same = same && at < behind && bytes.get(at) == letter;
                    at++;
                } else if (same && at == behind) {
                    return index;
                } else {
                    index++;
                    at = itemStart;
                    same = true;
                }
            }
            return NONE;
        }
    }

    /** What a coast's text tells, and what follows from it alone. */
    private static final class Coast {
        static final int CELL = 0;
        static final int LIGHT = 1;
        static final int DONKEY = 2;
        static final int SHIP = 3;
        static final int DOOR = 4;
        static final int LONGEST_CODE = 8;
        static final int LARGEST_CARGO = 40;
        /** The five above, and sights, which are counted too but never too many. */
        private static final int KINDS = 6;
        private static final int STRIKING_DEPTH = 6;
        private static final int CAUGHT = -3;
        private static final int SIGHT_WITHOUT = 2;
        private static final String WORDS = "cell light donkey ship door sight";

        /** How many there are of each kind. */
        final Row many = new Row(KINDS);
        final Row reefs = new Row(MOST_CELLS);
        final Row lightCells = new Row(MOST_LIGHTS);
        final Row lightPeriods = new Row(MOST_LIGHTS);
        final Row donkeyCells = new Row(MOST_DONKEYS);
        final Row donkeyPeriods = new Row(MOST_DONKEYS);
        final Row cargo = new Row(MOST_SHIPS);
        final Row crew = new Row(MOST_SHIPS);
        final Row trust = new Row(MOST_SHIPS);
        final Row draught = new Row(MOST_SHIPS);
        private final Row heads = new Row(MOST_DOORS);
        private int sight = SIGHT_WITHOUT;

        void become(Coast other) {
            many.become(other.many);
            reefs.become(other.reefs);
            lightCells.become(other.lightCells);
            lightPeriods.become(other.lightPeriods);
            donkeyCells.become(other.donkeyCells);
            donkeyPeriods.become(other.donkeyPeriods);
            cargo.become(other.cargo);
            crew.become(other.crew);
            trust.become(other.trust);
            draught.become(other.draught);
            heads.become(other.heads);
            sight = other.sight;
        }

        int sight() {
            return sight;
        }

        int shipNumber(int ship, int which) {
            switch (which) {
                case 0:
                    return cargo.get(ship);
                case 1:
                    return crew.get(ship);
                case 2:
                    return trust.get(ship);
                default:
                    return draught.get(ship);
            }
        }

        void readFrom(Tape text) {
            many.clear();
            sight = SIGHT_WITHOUT;
            for (int ahead = 0; ahead <= MOST_CLAUSES && text.fine() && !text.ended(); ahead++) {
                readClause(text, ahead);
            }
        }

        private void readClause(Tape text, int ahead) {
            int kind = text.wordOf(WORDS);
            if (ahead >= MOST_CLAUSES || many.get(kind) >= mostOf(kind)) {
                text.blameItem(Tape.TOO_MANY);
            }
            if (!text.fine()) {
                return;
            }
            readNumbers(text, kind, many.get(kind));
            text.require(text.take(';'));
            many.add(kind, 1);
        }

        private static int mostOf(int kind) {
            switch (kind) {
                case CELL:
                    return MOST_CELLS;
                case LIGHT:
                    return MOST_LIGHTS;
                case DONKEY:
                    return MOST_DONKEYS;
                case SHIP:
                    return MOST_SHIPS;
                case DOOR:
                    return MOST_DOORS;
                default:
                    return MOST_CLAUSES;
            }
        }

        private void readNumbers(Tape text, int kind, int index) {
            switch (kind) {
                case CELL:
                    reefs.set(index, text.numberIn(0, 9));
                    break;
                case LIGHT:
                    lightCells.set(index, text.numberIn(0, many.get(CELL) - 1));
                    lightPeriods.set(index, text.numberIn(1, LONGEST_PERIOD));
                    break;
                case DONKEY:
                    donkeyCells.set(index, text.numberIn(0, many.get(CELL) - 1));
                    donkeyPeriods.set(index, text.numberIn(1, LONGEST_PERIOD));
                    break;
                case SHIP:
                    cargo.set(index, text.numberIn(0, LARGEST_CARGO));
                    crew.set(index, text.numberIn(0, 9));
                    trust.set(index, text.numberIn(0, 9));
                    draught.set(index, text.numberIn(0, 9));
                    break;
                case DOOR:
                    heads.set(index, text.numberIn(1, 9));
                    break;
                default:
                    sight = text.numberIn(0, 5);
                    break;
            }
        }

        boolean strikes(int ship, int cell) {
            int reef = reefs.get(cell);
            return reef > 0 && reef + draught.get(ship) >= STRIKING_DEPTH;
        }

        int alive(int ship, int where) {
            return where == NONE ? crew.get(ship) : Math.max(crew.get(ship) - reefs.get(where), 0);
        }

        int parishCargo(int ship, int where) {
            return where != NONE && crew.get(ship) <= reefs.get(where) ? cargo.get(ship) : 0;
        }

        int allReefs() {
            int all = 0;
            for (int cell = 0; cell < many.get(CELL); cell++) {
                all += reefs.get(cell);
            }
            return all;
        }

        int longestReefFirst() {
            int first = NONE;
            int longest = 0;
            for (int cell = 0; cell < many.get(CELL); cell++) {
                int row = reefRowFrom(cell);
                if (row > longest) {
                    first = cell;
                    longest = row;
                }
            }
            return first;
        }

        int reefRowFrom(int first) {
            int row = 0;
            for (int cell = first; cell >= 0 && cell < many.get(CELL) && reefs.get(cell) > 0; cell++) {
                row++;
            }
            return row;
        }

        int carriersHave(int they, int he) {
            return Math.abs(they - he) <= 1 ? CAUGHT : reefs.get(they);
        }

        int rests() {
            int found = 0;
            for (int they = 0; they < many.get(CELL); they++) {
                for (int he = 0; he < many.get(CELL); he++) {
                    found += isRest(they, he) ? 1 : 0;
                }
            }
            return found;
        }

        int firstRest() {
            for (int they = 0; they < many.get(CELL); they++) {
                for (int he = 0; he < many.get(CELL); he++) {
                    if (isRest(they, he)) {
                        return 100 * they + he;
                    }
                }
            }
            return NONE;
        }

        private boolean isRest(int they, int he) {
            if (reefs.get(they) == 0) {
                return false;
            }
            int have = carriersHave(they, he);
            for (int cell = 0; cell < many.get(CELL); cell++) {
                boolean theyGain = reefs.get(cell) > 0 && carriersHave(cell, he) > have;
                boolean heGains = carriersHave(they, cell) < have;
                if (theyGain || heGains) {
                    return false;
                }
            }
            return true;
        }

        int shareOf(int door, int n) {
            int all = 0;
            for (int other = 0; other < many.get(DOOR); other++) {
                all += heads.get(other);
            }
            int over = n;
            int ahead = 0;
            int mine = left(n * heads.get(door), all);
            for (int other = 0; other < many.get(DOOR); other++) {
                int theirs = left(n * heads.get(other), all);
                over -= cut(n * heads.get(other), all);
                ahead += theirs > mine || theirs == mine && other < door ? 1 : 0;
            }
            return cut(n * heads.get(door), all) + (ahead < over ? 1 : 0);
        }

        void markMadeRows(int n, Row made) {
            made.clear();
            for (int donkey = 0; donkey < many.get(DONKEY); donkey++) {
                int period = donkeyPeriods.get(donkey);
                for (int start = 0; start < period; start++) {
                    made.set(rowFrom(start, period, n), 1);
                }
            }
        }

        private static int rowFrom(int start, int period, int n) {
            int row = 0;
            for (int i = 0; i < n; i++) {
                row |= flashesIn(start + i, period) ? 1 << i : 0;
            }
            return row;
        }
    }

    /** A law as code for a stack: its values come in the order in which they are taken. */
    private static final class Law {
        private static final String NAMES = "seen dark minute cell trust draught crew night fog least most";
        private static final int SEEN = 0;
        private static final int DARK = 1;
        private static final int MINUTE = 2;
        private static final int CELL = 3;
        private static final int TRUST = 4;
        private static final int DRAUGHT = 5;
        private static final int CREW = 6;
        private static final int NIGHT = 7;
        private static final int FOG = 8;
        private static final int INPUTS = 9;
        private static final int LEAST = 9;
        private static final int MOST = 10;
        private static final int NUMBER = 11;
        private static final int PLUS = 12;
        private static final int MINUS = 13;
        private static final int TIMES = 14;
        private static final int BY = 15;
        private static final int REST = 16;

        private final Row kinds = new Row(LAW_BYTES);
        private final Row numbers = new Row(LAW_BYTES);
        private final Row inputs = new Row(INPUTS);
        private final Row stack = new Row(LAW_BYTES);
        private int size;

        Law() {
            reset();
        }

        void reset() {
            size = 0;
            emit(SEEN, 0);
            emit(NUMBER, 1);
            emit(MINUS, 0);
        }

        void become(Law other) {
            kinds.become(other.kinds);
            numbers.become(other.numbers);
            size = other.size;
        }

        void tellNight(int night, int fog) {
            inputs.set(NIGHT, night);
            inputs.set(FOG, fog);
        }

        void tellShip(Coast coast, int ship, int seen, int dark, int minute, int cell) {
            inputs.set(TRUST, coast.trust.get(ship));
            inputs.set(DRAUGHT, coast.draught.get(ship));
            inputs.set(CREW, coast.crew.get(ship));
            inputs.set(SEEN, seen);
            inputs.set(DARK, dark);
            inputs.set(MINUTE, minute);
            inputs.set(CELL, cell);
        }

        boolean steersIn() {
            int height = 0;
            for (int i = 0; i < size; i++) {
                int kind = kinds.get(i);
                if (kind < INPUTS) {
                    stack.set(height, inputs.get(kind));
                    height++;
                } else if (kind == NUMBER) {
                    stack.set(height, numbers.get(i));
                    height++;
                } else {
                    height--;
                    stack.set(height - 1, joined(kind, stack.get(height - 1), stack.get(height)));
                }
            }
            return stack.get(0) > 0;
        }

        private static int joined(int kind, int one, int other) {
            switch (kind) {
                case PLUS:
                    return one + other;
                case MINUS:
                    return one - other;
                case TIMES:
                    return one * other;
                case BY:
                    return other == 0 ? 0 : one / other;
                case REST:
                    return other == 0 ? 0 : one % other;
                case LEAST:
                    return Math.min(one, other);
                default:
                    return Math.max(one, other);
            }
        }

        void readFrom(Tape text) {
            size = 0;
            readSum(text, 0);
            text.require(text.ended());
        }

        private void emit(int kind, int number) {
            kinds.set(size, kind);
            numbers.set(size, number);
            size++;
        }

        private void readSum(Tape text, int open) {
            readProduct(text, open);
            for (int i = 0; i < LAW_BYTES && text.fine(); i++) {
                int sign = text.take('+') ? PLUS : text.take('-') ? MINUS : NONE;
                if (sign == NONE) {
                    return;
                }
                readProduct(text, open);
                emit(sign, 0);
            }
        }

        private void readProduct(Tape text, int open) {
            readPart(text, open);
            for (int i = 0; i < LAW_BYTES && text.fine(); i++) {
                int sign = text.take('*') ? TIMES : text.take('/') ? BY : text.take('%') ? REST : NONE;
                if (sign == NONE) {
                    return;
                }
                readPart(text, open);
                emit(sign, 0);
            }
        }

        private void readPart(Tape text, int open) {
            if (!text.fine()) {
                return;
            }
            if (text.digitNext()) {
                emit(NUMBER, text.numberIn(0, 999));
                return;
            }
            if (text.take('(')) {
                if (mayOpen(text, open)) {
                    readSum(text, open + 1);
                    text.require(text.take(')'));
                }
                return;
            }
            int name = text.wordOf(NAMES);
            if (name >= INPUTS && mayOpen(text, open)) {
                text.require(text.take('['));
                readSum(text, open + 1);
                text.require(text.take(','));
                readSum(text, open + 1);
                text.require(text.take(']'));
            }
            emit(name, 0);
        }

        private static boolean mayOpen(Tape text, int open) {
            if (open >= MOST_OPEN) {
                text.blameItem(Tape.TOO_MANY);
            }
            return text.fine();
        }
    }

    /** Steps in a row, an again ahead of those that it holds. */
    private static final class Work {
        private static final String WORDS = "dowse light lead pass fog night again";
        private static final int DOWSE = 0;
        private static final int LIGHT = 1;
        private static final int LEAD = 2;
        private static final int PASS = 3;
        private static final int FOG = 4;
        private static final int NIGHT = 5;
        private static final int AGAIN = 6;
        private static final int MOST_TIMES = 30;
        private static final int MOST_BEGUN = 200;

        private final Row kinds = new Row(WORK_BYTES);
        private final Row firsts = new Row(WORK_BYTES);
        private final Row seconds = new Row(WORK_BYTES);
        private int size;
        private int begun;
        private int done;
        private int refused;

        int done() {
            return done;
        }

        int refused() {
            return refused;
        }

        void readFrom(Tape text, Coast coast) {
            size = 0;
            readSteps(text, coast, 0);
            text.require(text.ended());
        }

        private void readSteps(Tape text, Coast coast, int open) {
            for (int i = 0; i < WORK_BYTES && text.fine() && !text.ended(); i++) {
                if (text.nextIs(']')) {
                    return;
                }
                readStep(text, coast, open);
                text.require(text.take(';'));
            }
        }

        private void readStep(Tape text, Coast coast, int open) {
            int step = size;
            int kind = text.wordOf(WORDS);
            kinds.set(step, kind);
            size++;
            switch (kind) {
                case DOWSE:
                case LIGHT:
                    firsts.set(step, text.numberIn(0, coast.many.get(Coast.LIGHT) - 1));
                    break;
                case LEAD:
                    firsts.set(step, text.numberIn(0, coast.many.get(Coast.DONKEY) - 1));
                    seconds.set(step, text.numberIn(0, coast.many.get(Coast.CELL) - 1));
                    break;
                case PASS:
                    firsts.set(step, text.numberIn(0, coast.many.get(Coast.SHIP) - 1));
                    break;
                case AGAIN:
                    readAgain(text, coast, open, step);
                    break;
                default:
                    break;
            }
        }

        private void readAgain(Tape text, Coast coast, int open, int step) {
            if (open >= MOST_OPEN) {
                text.blameItem(Tape.TOO_MANY);
                return;
            }
            firsts.set(step, text.numberIn(0, MOST_TIMES));
            text.require(text.take('['));
            readSteps(text, coast, open + 1);
            text.require(text.take(']'));
            seconds.set(step, size);
        }

        void run(Coast coast, Law law, Nights nights, Passing passing) {
            begun = 0;
            done = 0;
            refused = 0;
            runSteps(0, size, 0, coast, law, nights, passing);
        }

        private void runSteps(int from, int to, int open, Coast coast, Law law, Nights nights, Passing passing) {
            int next = from;
            for (int i = from; i < to && next < to && begun < MOST_BEGUN; i++) {
                int step = next;
                next++;
                begun++;
                if (kinds.get(step) == AGAIN) {
                    runAgain(step, open + 1, coast, law, nights, passing);
                    next = seconds.get(step);
                } else if (doStep(step, coast, law, nights, passing)) {
                    done++;
                } else {
                    refused++;
                }
            }
        }

        private void runAgain(int step, int open, Coast coast, Law law, Nights nights, Passing passing) {
            int times = Math.min(firsts.get(step), MOST_TIMES);
            for (int time = 0; time < times && open <= MOST_OPEN; time++) {
                runSteps(step + 1, seconds.get(step), open, coast, law, nights, passing);
            }
        }

        private boolean doStep(int step, Coast coast, Law law, Nights nights, Passing passing) {
            int first = firsts.get(step);
            switch (kinds.get(step)) {
                case DOWSE:
                    return nights.setBurning(first, false);
                case LIGHT:
                    return nights.setBurning(first, true);
                case LEAD:
                    return nights.lead(first, seconds.get(step));
                case PASS:
                    if (nights.passed(first) || coast.many.get(Coast.CELL) == 0) {
                        return false;
                    }
                    passing.pass(coast, law, nights, first);
                    return true;
                case FOG:
                    return nights.fogComes();
                default:
                    return nights.get(Nights.NIGHT) < Nights.LAST_NIGHT && nights.nextNight();
            }
        }
    }

    /** All that work changes, in one row, so that it can be kept and taken back whole. */
    private static final class Nights {
        /** NIGHT to ALIVE stand in the order in which told() asks for them. */
        static final int NIGHT = 0;
        static final int FOG = 1;
        static final int STRUCK = 2;
        static final int PARISH = 3;
        static final int HELD = 4;
        static final int ALIVE = 5;
        static final int BURNING = 6;
        static final int PASSED = 7;
        static final int STANDS = 8;
        static final int SHIP_STRUCK = STANDS + MOST_DONKEYS;
        static final int CELL_STRUCK = SHIP_STRUCK + MOST_SHIPS;
        static final int SIZE = CELL_STRUCK + MOST_CELLS;
        static final int LAST_NIGHT = 500;

        final Row row = new Row(SIZE);

        void reset(Coast coast) {
            row.clear();
            row.set(BURNING, (1 << coast.many.get(Coast.LIGHT)) - 1);
            for (int donkey = 0; donkey < coast.many.get(Coast.DONKEY); donkey++) {
                row.set(STANDS + donkey, coast.donkeyCells.get(donkey));
            }
        }

        int get(int which) {
            return row.get(which);
        }

        void forgetWrecks() {
            row.set(STRUCK, 0);
            row.set(PARISH, 0);
            row.set(HELD, 0);
            row.set(ALIVE, 0);
        }

        boolean burns(int light) {
            return hasBit(row.get(BURNING), light);
        }

        boolean passed(int ship) {
            return hasBit(row.get(PASSED), ship);
        }

        boolean setBurning(int light, boolean burning) {
            if (burns(light) == burning) {
                return false;
            }
            row.set(BURNING, row.get(BURNING) ^ (1 << light));
            return true;
        }

        boolean lead(int donkey, int cell) {
            if (row.get(STANDS + donkey) == cell) {
                return false;
            }
            row.set(STANDS + donkey, cell);
            return true;
        }

        boolean fogComes() {
            if (row.get(FOG) == 1) {
                return false;
            }
            row.set(FOG, 1);
            return true;
        }

        boolean nextNight() {
            row.add(NIGHT, 1);
            row.set(FOG, 0);
            row.set(PASSED, 0);
            return true;
        }

        void hasPassed(Coast coast, int ship, int where) {
            row.set(PASSED, row.get(PASSED) | (1 << ship));
            if (where == NONE) {
                return;
            }
            int toParish = coast.parishCargo(ship, where);
            row.add(STRUCK, 1);
            row.add(PARISH, toParish);
            row.add(HELD, coast.cargo.get(ship) - toParish);
            row.add(ALIVE, coast.alive(ship, where));
            row.add(SHIP_STRUCK + ship, 1);
            row.add(CELL_STRUCK + where, 1);
        }

        int lightsIn(Coast coast, int cell) {
            int many = 0;
            for (int light = 0; light < coast.many.get(Coast.LIGHT); light++) {
                many += burns(light) && coast.lightCells.get(light) == cell ? 1 : 0;
            }
            return many;
        }

        int donkeysIn(Coast coast, int cell) {
            int many = 0;
            for (int donkey = 0; donkey < coast.many.get(Coast.DONKEY); donkey++) {
                many += row.get(STANDS + donkey) == cell ? 1 : 0;
            }
            return many;
        }

        int reach(Coast coast) {
            return row.get(FOG) == 1 ? coast.sight() / 2 : coast.sight();
        }

        int lightFlashes(Coast coast, int cell, int minute, int reach) {
            int burning = row.get(BURNING);
            int lights = coast.many.get(Coast.LIGHT);
            int many = 0;
            for (int light = 0; light < lights; light++) {
                int at = coast.lightCells.get(light);
                int period = coast.lightPeriods.get(light);
                many += hasBit(burning, light) && isSeen(at, period, cell, minute, reach) ? 1 : 0;
            }
            return many;
        }

        int donkeyFlashes(Coast coast, int cell, int minute, int reach) {
            int last = coast.many.get(Coast.CELL) - 1;
            int donkeys = coast.many.get(Coast.DONKEY);
            int many = 0;
            for (int donkey = 0; donkey < donkeys; donkey++) {
                int at = Math.min(row.get(STANDS + donkey) + minute, last);
                int period = coast.donkeyPeriods.get(donkey);
                many += isSeen(at, period, cell, minute, reach) ? 1 : 0;
            }
            return many;
        }
    }

    /** What ships see and do on their way, minute by minute; begin() looks at all as it is then. */
    private static final class Passing {
        private final Row seenIn = new Row(MOST_CELLS);
        private final Row darkIn = new Row(MOST_CELLS);
        /** By ship and minute: for which views it is known whether it steers in (bits), and whether it does. */
        private final Row known = new Row(MOST_SHIPS * MOST_CELLS);
        private final Row steers = new Row(MOST_SHIPS * MOST_CELLS);

        void begin(Coast coast, Law law, Nights nights) {
            known.clear();
            steers.clear();
            law.tellNight(nights.get(Nights.NIGHT), nights.get(Nights.FOG));
            int reach = nights.reach(coast);
            int cells = coast.many.get(Coast.CELL);
            for (int m = 0; m < cells; m++) {
                int flashes = nights.lightFlashes(coast, m, m, reach) + nights.donkeyFlashes(coast, m, m, reach);
                seenIn.set(m, flashes);
            }
            reckonDark(cells);
        }

        int seenIn(int minute) {
            return seenIn.get(minute);
        }

        void setSeen(int minute, int flashes) {
            seenIn.set(minute, flashes);
        }

        /** Of no ship in particular: all that pass see the same. */
        void reckonDark(int cells) {
            int latest = 0;
            for (int m = 0; m < cells; m++) {
                latest = seenIn.get(m) > 0 ? m : latest;
                darkIn.set(m, m - latest);
            }
        }

        void pass(Coast coast, Law law, Nights nights, int ship) {
            begin(coast, law, nights);
            nights.hasPassed(coast, ship, struckIn(coast, law, ship));
        }

        /** A view is dark minutes (0 to 11) or flashes seen (12 on); what else the law asks is fixed by begin(). */
        int struckIn(Coast coast, Law law, int ship) {
            for (int m = 0; m < coast.many.get(Coast.CELL); m++) {
                if (!coast.strikes(ship, m)) {
                    continue;
                }
                int index = ship * MOST_CELLS + m;
                int seen = seenIn.get(m);
                int view = 1 << (seen > 0 ? MOST_CELLS - 1 + seen : darkIn.get(m));
                if ((known.get(index) & view) == 0) {
                    known.set(index, known.get(index) | view);
                    law.tellShip(coast, ship, seen, darkIn.get(m), m, m);
                    steers.set(index, steers.get(index) | (law.steersIn() ? view : 0));
                }
                if ((steers.get(index) & view) != 0) {
                    return m;
                }
            }
            return NONE;
        }

        int steeredCells(Coast coast, Law law, int ship, int where) {
            int cells = 0;
            for (int m = 0; m <= lastMinute(coast, where); m++) {
                law.tellShip(coast, ship, seenIn.get(m), darkIn.get(m), m, m);
                cells |= law.steersIn() ? 1 << m : 0;
            }
            return cells;
        }

        int flashesTo(Coast coast, int where) {
            int flashes = 0;
            for (int m = 0; m <= lastMinute(coast, where); m++) {
                flashes += seenIn.get(m);
            }
            return flashes;
        }

        int firstBlind(Coast coast, int where) {
            for (int m = 0; m <= lastMinute(coast, where); m++) {
                if (seenIn.get(m) == 0) {
                    return m;
                }
            }
            return NONE;
        }

        private static int lastMinute(Coast coast, int where) {
            return where == NONE ? coast.many.get(Coast.CELL) - 1 : where;
        }
    }

    /** Ways that are tried one by one, and of these the best. */
    private static final class Plans {
        private final Row without = new Row(MOST_CELLS);
        private final Row donkeySeen = new Row(MOST_DONKEYS * MOST_CELLS);
        private int worth;
        private int donkeyCells;
        private int lampCell;
        private int lampPeriod;

        int worth() {
            return worth;
        }

        int donkeyCells() {
            return donkeyCells;
        }

        int lampCell() {
            return lampCell;
        }

        int lampPeriod() {
            return lampPeriod;
        }

        void placeDonkeys(Coast coast, Law law, Nights nights, Passing passing, int ships) {
            int ways = 1;
            for (int donkey = 0; donkey < coast.many.get(Coast.DONKEY); donkey++) {
                ways *= coast.many.get(Coast.CELL);
            }
            passing.begin(coast, law, nights);
            lookWithoutDonkeys(coast, nights);
            worth = NONE;
            for (int way = 0; way < ways; way++) {
                int cells = cellsOf(coast, way);
                showDonkeys(coast, passing, cells);
                int cargo = parishCargo(coast, law, passing, ships);
                if (cargo > worth) {
                    worth = cargo;
                    donkeyCells = cells;
                }
            }
        }

        private void lookWithoutDonkeys(Coast coast, Nights nights) {
            int reach = nights.reach(coast);
            for (int m = 0; m < coast.many.get(Coast.CELL); m++) {
                without.set(m, nights.lightFlashes(coast, m, m, reach));
            }
            for (int donkey = 0; donkey < coast.many.get(Coast.DONKEY); donkey++) {
                int period = coast.donkeyPeriods.get(donkey);
                for (int cell = 0; cell < coast.many.get(Coast.CELL); cell++) {
                    int minutes = 0;
                    for (int m = 0; m < coast.many.get(Coast.CELL); m++) {
                        int at = Math.min(cell + m, coast.many.get(Coast.CELL) - 1);
                        minutes |= isSeen(at, period, m, m, reach) ? 1 << m : 0;
                    }
                    donkeySeen.set(donkey * MOST_CELLS + cell, minutes);
                }
            }
        }

        /** The last donkey's cell changes first, so that the first way among alike ones comes first. */
        private static int cellsOf(Coast coast, int way) {
            int cells = 0;
            int rest = way;
            for (int donkey = coast.many.get(Coast.DONKEY) - 1; donkey >= 0; donkey--) {
                cells |= left(rest, coast.many.get(Coast.CELL)) << (4 * donkey);
                rest = cut(rest, coast.many.get(Coast.CELL));
            }
            return cells;
        }

        private void showDonkeys(Coast coast, Passing passing, int cells) {
            for (int m = 0; m < coast.many.get(Coast.CELL); m++) {
                int flashes = without.get(m);
                for (int donkey = 0; donkey < coast.many.get(Coast.DONKEY); donkey++) {
                    int cell = (cells >> (4 * donkey)) & 15;
                    flashes += (donkeySeen.get(donkey * MOST_CELLS + cell) >> m) & 1;
                }
                passing.setSeen(m, flashes);
            }
            passing.reckonDark(coast.many.get(Coast.CELL));
        }

        private static int parishCargo(Coast coast, Law law, Passing passing, int ships) {
            int cargo = 0;
            for (int ship = 0; ship < coast.many.get(Coast.SHIP); ship++) {
                if (hasBit(ships, ship)) {
                    cargo += coast.parishCargo(ship, passing.struckIn(coast, law, ship));
                }
            }
            return cargo;
        }

        void placeLamp(Coast coast, Law law, Nights nights, Passing passing) {
            passing.begin(coast, law, nights);
            for (int m = 0; m < coast.many.get(Coast.CELL); m++) {
                without.set(m, passing.seenIn(m));
            }
            int reach = nights.reach(coast);
            worth = NONE;
            for (int cell = 0; cell < coast.many.get(Coast.CELL); cell++) {
                for (int period = 1; period <= LONGEST_PERIOD; period++) {
                    showLamp(coast, passing, cell, period, reach);
                    int safeShips = safeShips(coast, law, passing);
                    if (safeShips > worth) {
                        worth = safeShips;
                        lampCell = cell;
                        lampPeriod = period;
                    }
                }
            }
        }

        private void showLamp(Coast coast, Passing passing, int cell, int period, int reach) {
            for (int m = 0; m < coast.many.get(Coast.CELL); m++) {
                passing.setSeen(m, without.get(m) + (isSeen(cell, period, m, m, reach) ? 1 : 0));
            }
            passing.reckonDark(coast.many.get(Coast.CELL));
        }

        private static int safeShips(Coast coast, Law law, Passing passing) {
            int many = 0;
            for (int ship = 0; ship < coast.many.get(Coast.SHIP); ship++) {
                many += passing.struckIn(coast, law, ship) == NONE ? 1 : 0;
            }
            return many;
        }
    }

    /** Nights by a seed, lived on a copy of what is. */
    private static final class Winter {
        static final int MOST_NIGHTS = 96;
        static final int MOST_CARGO = MOST_NIGHTS * Coast.LARGEST_CARGO;

        private final Nights lived = new Nights();
        private int seed;
        private int foggy;

        int struck() {
            return lived.get(Nights.STRUCK);
        }

        int parish() {
            return lived.get(Nights.PARISH);
        }

        int alive() {
            return lived.get(Nights.ALIVE);
        }

        int foggy() {
            return foggy;
        }

        void begin(Nights now, int firstSeed) {
            lived.row.become(now.row);
            lived.forgetWrecks();
            seed = firstSeed;
            foggy = 0;
        }

        void live(Coast coast, Law law, Passing passing, int many, int q) {
            int ships = coast.many.get(Coast.CELL) == 0 ? 0 : coast.many.get(Coast.SHIP);
            for (int night = 0; night < many; night++) {
                if (draw(16) < q) {
                    lived.fogComes();
                }
                foggy += lived.get(Nights.FOG);
                if (ships > 0) {
                    passing.pass(coast, law, lived, draw(ships));
                }
                lived.nextNight();
            }
        }

        private int draw(int by) {
            seed = seed * 1_103_515_245 + 12_345;
            return left((seed >>> 16) & 0x7fff, by);
        }
    }

    /** When a flash was seen and when none was; which lights it may have been. */
    private static final class FlashLog {
        private static final int MINUTES = 60;
        private static final int MOST_LINES = 12;
        private static final int NO_FLASH = 1;
        private static final int A_FLASH = 2;

        private final Row told = new Row(MINUTES);
        private int lines;

        void reset() {
            told.clear();
            lines = 0;
        }

        void become(FlashLog other) {
            told.become(other.told);
            lines = other.lines;
        }

        int lines() {
            return lines;
        }

        void readFrom(Tape text) {
            reset();
            for (int i = 0; i <= MOST_LINES && text.fine() && !text.ended(); i++) {
                readLine(text);
            }
        }

        private void readLine(Tape text) {
            int minute = text.numberIn(0, MINUTES - 1);
            if (told.get(minute) != 0) {
                text.blameItem(Tape.NO_SUCH_NUMBER);
            }
            if (lines >= MOST_LINES) {
                text.blameItem(Tape.TOO_MANY);
            }
            told.set(minute, text.numberIn(0, 1) == 0 ? NO_FLASH : A_FLASH);
            text.require(text.take(';'));
            lines++;
        }

        private boolean isFit(int period, int over) {
            for (int minute = 0; minute < MINUTES; minute++) {
                int unlike = left(minute, period) == over ? NO_FLASH : A_FLASH;
                if (told.get(minute) == unlike) {
                    return false;
                }
            }
            return true;
        }

        int fitting() {
            int many = 0;
            for (int period = 1; period <= LONGEST_PERIOD; period++) {
                for (int over = 0; over < period; over++) {
                    many += isFit(period, over) ? 1 : 0;
                }
            }
            return many;
        }

        int firstFit() {
            for (int period = 1; period <= LONGEST_PERIOD; period++) {
                for (int over = 0; over < period; over++) {
                    if (isFit(period, over)) {
                        return 10 * period + over;
                    }
                }
            }
            return NONE;
        }

        int bestMinute() {
            int best = NONE;
            int fewest = 0;
            for (int minute = 0; minute < MINUTES; minute++) {
                if (told.get(minute) != 0) {
                    continue;
                }
                int worst = leftAtWorst(minute);
                if (best == NONE || worst < fewest) {
                    best = minute;
                    fewest = worst;
                }
            }
            return best;
        }

        int leftAtWorst(int minute) {
            int flashing = 0;
            int others = 0;
            for (int period = 1; period <= LONGEST_PERIOD; period++) {
                for (int over = 0; over < period; over++) {
                    if (!isFit(period, over)) {
                        continue;
                    }
                    if (left(minute, period) == over) {
                        flashing++;
                    } else {
                        others++;
                    }
                }
            }
            return Math.max(flashing, others);
        }
    }

    /** What was ahead of each work, and images: each of all that is and of what was ahead of its works. */
    private static final class History {
        static final int MOST_WORKS = 16;
        static final int MOST_IMAGES = 3;
        private static final int WORKS_SIZE = MOST_WORKS * Nights.SIZE;
        private static final int IMAGE_SIZE = WORKS_SIZE + Nights.SIZE;

        private final Row ahead = new Row(WORKS_SIZE);
        private final Row imaged = new Row(MOST_IMAGES * IMAGE_SIZE);
        private final Row imagedWorks = new Row(MOST_IMAGES);
        private int works;
        private int images;

        void reset() {
            works = 0;
            images = 0;
        }

        int works() {
            return works;
        }

        int images() {
            return images;
        }

        void keepWork(Nights nights) {
            ahead.copyFrom(nights.row, 0, works * Nights.SIZE, Nights.SIZE);
            works++;
        }

        int undoWork(Nights nights) {
            works--;
            nights.row.copyFrom(ahead, works * Nights.SIZE, 0, Nights.SIZE);
            return works;
        }

        int keepImage(Nights nights) {
            int start = images * IMAGE_SIZE;
            imaged.copyFrom(ahead, 0, start, WORKS_SIZE);
            imaged.copyFrom(nights.row, 0, start + WORKS_SIZE, Nights.SIZE);
            imagedWorks.set(images, works);
            images++;
            return images;
        }

        int takeImage(Nights nights) {
            images--;
            int start = images * IMAGE_SIZE;
            ahead.copyFrom(imaged, start, 0, WORKS_SIZE);
            nights.row.copyFrom(imaged, start + WORKS_SIZE, 0, Nights.SIZE);
            works = imagedWorks.get(images);
            return images;
        }
    }
}
