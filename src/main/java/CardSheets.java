/**
 * A shop that prints playing cards: blocks, sheets, a pile, the pack on the table and a sharper
 * who reads the backs. ../shared/DOC.md says what every call promises.
 */
public final class CardSheets {
    public static final int UNKNOWN = -1;
    public static final int BAD_VALUE = -2;
    public static final int FULL = -3;
    public static final int NOT_POSSIBLE = -4;
    public static final int NONE = -5;

    private static final int ROWS = 4;
    private static final int COLUMNS = 6;
    private static final int CELLS = 24;
    private static final int RANKS = 6;
    private static final int FIRST_COURT_RANK = 3;
    private static final int MARKS = 4;
    private static final int WAYS = 4;
    private static final int NO_CELL = -1;

    private static final int WEAR_SETTING = 0;
    private static final int LEAN_SETTING = 1;
    private static final int KNOWN_SETTING = 2;
    private static final int PRICE_SETTING = 3;
    private static final int SETTINGS = 4;
    private static final int[] LEAST_OF_SETTING = {1, 0, 0, 1};
    private static final int[] MOST_OF_SETTING = {99, 9, 24, 99};
    private static final int[] FIRST_OF_SETTING = {10, 3, 4, 12};

    private static final int MOST_LEAN = 9;
    private static final int MOST_MARK = 3;
    private static final int MOST_SHEETS = 6;
    private static final int MOST_SIGNS = 60;
    private static final int MOST_STATES = 4;
    private static final int MOST_SHUFFLES = 500;
    // The shortest change has 4 signs, and a ";" behind it unless it is the last one.
    private static final int MOST_CHANGES = 12;

    private static final int DEALT_FROM = 1;
    private static final int COURT_LEANS = 2;
    private static final int TOO_MANY_KNOWN = 3;

    // Added to a lean that is told, so that none looks like an error.
    private static final int LEAN_ZERO = 100;
    private static final int FAULT_ZERO = -100;
    private static final int REASON_ZERO = -10;

    private final State now = new State();
    private final State snapshot = new State();
    private final History history = new History();
    private final Text text = new Text();
    // Holds the order that a pack had while it gets another one.
    private final int[] spare = new int[CELLS];
    private boolean isKept = false;

    public CardSheets() {
    }

    // ---- blocks

    public int swap(int cell, int other) {
        if (!isCell(cell) || !isCell(other)) {
            return UNKNOWN;
        }
        if (cell == other) {
            return NONE;
        }
        history.record(now);
        now.exchange(cell, other);
        return at(now.cards, cell);
    }

    public int mark(int cell, int mark, boolean is) {
        if (!isCell(cell) || !isMark(mark)) {
            return UNKNOWN;
        }
        if (now.hasMark(cell, mark) == is) {
            return NONE;
        }
        history.record(now);
        now.setMark(cell, mark, is);
        return at(now.backs, cell);
    }

    public int lean(int card, int lean) {
        if (!isCard(card)) {
            return UNKNOWN;
        }
        if (lean < -MOST_LEAN || lean > MOST_LEAN) {
            return BAD_VALUE;
        }
        if (!isCourt(card)) {
            return NOT_POSSIBLE;
        }
        int before = at(now.leans, card);
        if (before == lean) {
            return NONE;
        }
        history.record(now);
        put(now.leans, card, lean);
        return before + LEAN_ZERO;
    }

    public int changeAll() {
        int found = text.findFault();
        if (found != NONE) {
            return FAULT_ZERO - found;
        }
        if (text.leansAnotherThanCourts()) {
            return NOT_POSSIBLE;
        }
        history.record(now);
        int changes = text.changes;
        for (int change = 0; change < changes; change++) {
            doChange(text.kindOf(change), at(text.firsts, change), at(text.seconds, change));
        }
        return changes;
    }

    public int set(int which, int value) {
        if (which < 0 || which >= SETTINGS) {
            return BAD_VALUE;
        }
        if (value < at(LEAST_OF_SETTING, which) || value > at(MOST_OF_SETTING, which)) {
            return BAD_VALUE;
        }
        int before = at(now.settings, which);
        if (before == value) {
            return NONE;
        }
        history.record(now);
        put(now.settings, which, value);
        return before;
    }

    // ---- sheets, packs

    public int print(boolean turned) {
        if (now.piled >= MOST_SHEETS) {
            return FULL;
        }
        history.record(now);
        now.printSheet(turned);
        return now.piled;
    }

    public int cutSheet(int way) {
        if (way < 0 || way >= WAYS) {
            return BAD_VALUE;
        }
        if (now.pack.isThere() || now.sheetAt(0) == null) {
            return NOT_POSSIBLE;
        }
        history.record(now);
        now.pack.layDown(now.takeTopSheet(), way);
        return now.piled;
    }

    public int cutPack(int top) {
        Pack pack = now.pack;
        if (!pack.isThere()) {
            return NOT_POSSIBLE;
        }
        if (!pack.hasPartsAt(top)) {
            return BAD_VALUE;
        }
        history.record(now);
        pack.cutAt(top, spare);
        return pack.cardAt(0);
    }

    public int shuffle(int top) {
        Pack pack = now.pack;
        if (!pack.isThere()) {
            return NOT_POSSIBLE;
        }
        if (!pack.hasPartsAt(top)) {
            return BAD_VALUE;
        }
        history.record(now);
        return pack.shuffleAt(top, spare);
    }

    public int deal(int cards) {
        Pack pack = now.pack;
        if (!pack.isThere()) {
            return NOT_POSSIBLE;
        }
        if (cards < 1 || cards > pack.left()) {
            return BAD_VALUE;
        }
        history.record(now);
        pack.dealt += cards;
        return pack.left();
    }

    public int sell() {
        if (!now.pack.isThere()) {
            return NOT_POSSIBLE;
        }
        int reason = now.reasonAgainstSale();
        if (reason != 0) {
            return REASON_ZERO - reason;
        }
        history.record(now);
        int price = at(now.settings, PRICE_SETTING);
        now.coins += price;
        now.sold++;
        now.pack.takeAway();
        return price;
    }

    public int pulp() {
        if (!now.pack.isThere()) {
            return NOT_POSSIBLE;
        }
        history.record(now);
        int left = now.pack.left();
        now.pulped++;
        now.pack.takeAway();
        return left;
    }

    // ---- texts

    public int type(char character) {
        if (text.length >= MOST_SIGNS) {
            return FULL;
        }
        text.append(character);
        return text.length;
    }

    public int clearText() {
        int before = text.length;
        text.length = 0;
        return before;
    }

    public int fault() {
        return text.findFault();
    }

    // ---- history

    public int undo() {
        if (history.size == 0) {
            return NONE;
        }
        history.takeLatestInto(now);
        return history.size;
    }

    public int keep() {
        snapshot.copyFrom(now);
        isKept = true;
        return now.printed;
    }

    public int restore() {
        if (!isKept) {
            return NONE;
        }
        history.record(now);
        now.copyFrom(snapshot);
        return now.printed;
    }

    // ---- what is told

    public int block(int cell, int what) {
        if (!isCell(cell)) {
            return UNKNOWN;
        }
        switch (what) {
            case 0: return at(now.cards, cell);
            case 1: return at(now.backs, cell);
            default: return BAD_VALUE;
        }
    }

    public int cardOf(int card, int what) {
        if (!isCard(card)) {
            return UNKNOWN;
        }
        switch (what) {
            case 0: return now.cellOf(card);
            case 1: return at(now.leans, card) + LEAN_ZERO;
            case 2: return now.pack.placeOf(card);
            case 3: return now.pack.marksOf(card);
            default: return BAD_VALUE;
        }
    }

    public int sheet(int sheet, int cell, int what) {
        Sheet found = now.sheetAt(sheet);
        if (found == null || !isCell(cell)) {
            return UNKNOWN;
        }
        int card = at(found.cards, cell);
        switch (what) {
            case 0: return card;
            case 1: return at(found.marks, card);
            default: return BAD_VALUE;
        }
    }

    public int pack(int place, int what) {
        Pack pack = now.pack;
        if (place < 0 || place >= pack.left()) {
            return UNKNOWN;
        }
        switch (what) {
            case 0: return pack.cardAt(place);
            case 1: return pack.marksAt(place);
            case 2: return pack.canBeAt(place);
            case 3: return pack.guessAt(place);
            case 4: return pack.canBeAt(place) == 1 ? 1 : 0;
            default: return BAD_VALUE;
        }
    }

    public int count(int what) {
        switch (what) {
            case 0: return now.piled;
            case 1: return now.printed;
            case 2: return now.pack.isThere() ? 1 : 0;
            case 3: return now.pack.left();
            case 4: return now.pack.dealt;
            case 5: return now.pack.known();
            case 6: return now.pack.guessedRight();
            case 7: return now.sold;
            case 8: return now.pulped;
            case 9: return now.coins;
            case 10: return now.marksOnBacks();
            case 11: return courtsBeyond(now.leans, at(now.settings, LEAN_SETTING));
            case 12: return history.size;
            case 13: return text.length;
            case 14: return at(now.settings, WEAR_SETTING);
            case 15: return at(now.settings, LEAN_SETTING);
            case 16: return at(now.settings, KNOWN_SETTING);
            case 17: return at(now.settings, PRICE_SETTING);
            default: return BAD_VALUE;
        }
    }

    public int why() {
        return now.pack.isThere() ? now.reasonAgainstSale() : NOT_POSSIBLE;
    }

    public float chances() {
        return now.pack.isThere() ? now.pack.sumOfChances() : -1.0f;
    }

    // ---- what would be

    public int ifPrinted(boolean turned) {
        return now.knownIfPrinted(turned, NO_CELL);
    }

    public int worstFlaw(int what) {
        if (what != 0 && what != 1) {
            return BAD_VALUE;
        }
        int worst = 0;
        int fewest = now.knownIfPrinted(false, 0);
        for (int cell = 1; cell < CELLS; cell++) {
            int known = now.knownIfPrinted(false, cell);
            if (known < fewest) {
                worst = cell;
                fewest = known;
            }
        }
        return what == 0 ? worst : fewest;
    }

    public int bestWay() {
        Sheet top = now.sheetAt(0);
        if (top == null) {
            return NOT_POSSIBLE;
        }
        int best = 0;
        int fewest = top.cardsAtHome(0);
        for (int way = 1; way < WAYS; way++) {
            int home = top.cardsAtHome(way);
            if (home < fewest) {
                best = way;
                fewest = home;
            }
        }
        return best;
    }

    public int backIn(int top) {
        Pack pack = now.pack;
        if (!pack.isThere()) {
            return NOT_POSSIBLE;
        }
        if (!pack.hasPartsAt(top)) {
            return BAD_VALUE;
        }
        int times = shufflesUntilBack(top, pack.left());
        return times > MOST_SHUFFLES ? NONE : times;
    }

    private void doChange(char kind, int first, int second) {
        if (kind == 's') {
            now.exchange(first, second);
        } else if (kind == 'l') {
            put(now.leans, first, second);
        } else {
            now.setMark(first, second, kind == 'm');
        }
    }

    private static boolean isCell(int cell) {
        return cell >= 0 && cell < CELLS;
    }

    private static boolean isCard(int card) {
        return card >= 0 && card < CELLS;
    }

    private static boolean isMark(int mark) {
        return mark >= 0 && mark < MARKS;
    }

    private static boolean isCourt(int card) {
        return card % RANKS >= FIRST_COURT_RANK;
    }

    // No index is used untested: what lies outside a row reads as 0 ..
    private static int at(int[] row, int index) {
        return index >= 0 && index < row.length ? row[index] : 0;
    }

    // .. and is not written.
    private static void put(int[] row, int index, int value) {
        if (index >= 0 && index < row.length) {
            row[index] = value;
        }
    }

    private static void copyRow(int[] from, int[] to) {
        System.arraycopy(from, 0, to, 0, Math.min(from.length, to.length));
    }

    private static int courtsBeyond(int[] leans, int limit) {
        int courts = 0;
        for (int card = 0; card < leans.length; card++) {
            if (Math.abs(leans[card]) > limit) {
                courts++;
            }
        }
        return courts;
    }

    /** The cell whose card comes to a place of the pack by a way of cutting. */
    private static int cellAt(int way, int place) {
        if (way == 0 || way == 2) {
            int row = place / COLUMNS;
            boolean fromRight = way == 2 && row % 2 == 1;
            return COLUMNS * row + along(place % COLUMNS, COLUMNS, fromRight);
        }
        int column = place / ROWS;
        boolean fromBelow = way == 3 && column % 2 == 1;
        return COLUMNS * along(place % ROWS, ROWS, fromBelow) + column;
    }

    private static int along(int step, int steps, boolean fromFarEnd) {
        return fromFarEnd ? steps - 1 - step : step;
    }

    /** The place that a card had before a shuffle that brings it to this place. */
    private static int placeBefore(int place, int top, int cards) {
        int inTurns = Math.min(top, cards - top);
        if (place >= 2 * inTurns) {
            return top > inTurns ? place - inTurns : place;
        }
        return place % 2 == 0 ? place / 2 : top + place / 2;
    }

    /**
     * A card is back whenever the shuffles are a multiple of the round of its place, so all cards
     * are back together first at the least multiple of all the rounds (at most 840 of 24 cards).
     */
    private static int shufflesUntilBack(int top, int cards) {
        int times = 1;
        for (int place = 0; place < cards; place++) {
            times = leastCommonMultiple(times, roundOf(place, top, cards));
        }
        return times;
    }

    private static int roundOf(int place, int top, int cards) {
        int where = place;
        for (int times = 1; times < cards; times++) {
            where = placeBefore(where, top, cards);
            if (where == place) {
                return times;
            }
        }
        return cards;
    }

    private static int leastCommonMultiple(int first, int second) {
        for (int factor = 1; factor < second; factor++) {
            if (first * factor % second == 0) {
                return first * factor;
            }
        }
        return first * second;
    }

    /** What the blocks were as it was printed. It never changes, so that states share it. */
    private static final class Sheet {
        /** The card of each cell. */
        final int[] cards = new int[CELLS];
        /** The marks behind each card. */
        final int[] marks = new int[CELLS];
        /** The lean of each card. */
        final int[] leans = new int[CELLS];

        Sheet(int[] cards, int[] leans, int[] backs, boolean turned) {
            for (int cell = 0; cell < CELLS; cell++) {
                int card = at(cards, cell);
                this.cards[cell] = card;
                if (isCard(card)) {
                    this.leans[card] = at(leans, card);
                    this.marks[card] = at(backs, turned ? CELLS - 1 - cell : cell);
                }
            }
        }

        int cardCutTo(int way, int place) {
            return at(cards, cellAt(way, place));
        }

        int cardsAtHome(int way) {
            int home = 0;
            for (int place = 0; place < CELLS; place++) {
                if (cardCutTo(way, place) == place) {
                    home++;
                }
            }
            return home;
        }
    }

    /** The pack on the table, if there is one, and what a sharper makes of it. */
    private static final class Pack {
        /** The cards that were dealt, then the others from the top on. */
        final int[] order = new int[CELLS];
        /** The sheet that it was cut from; null while there is no pack. */
        Sheet from = null;
        int dealt = 0;

        void copyFrom(Pack other) {
            copyRow(other.order, order);
            from = other.from;
            dealt = other.dealt;
        }

        void layDown(Sheet sheet, int way) {
            if (sheet == null) {
                return;
            }
            from = sheet;
            dealt = 0;
            for (int place = 0; place < CELLS; place++) {
                order[place] = sheet.cardCutTo(way, place);
            }
        }

        void takeAway() {
            from = null;
            dealt = 0;
        }

        boolean isThere() {
            return from != null;
        }

        int left() {
            return from == null ? 0 : CELLS - dealt;
        }

        boolean hasPartsAt(int top) {
            return top >= 1 && top < left();
        }

        int cardAt(int place) {
            return at(order, dealt + place);
        }

        int placeOf(int card) {
            int left = left();
            for (int place = 0; place < left; place++) {
                if (cardAt(place) == card) {
                    return place;
                }
            }
            return NONE;
        }

        void cutAt(int top, int[] before) {
            copyRow(order, before);
            int left = left();
            for (int place = 0; place < left; place++) {
                int old = place + top < left ? place + top : place + top - left;
                put(order, dealt + place, at(before, dealt + old));
            }
        }

        /** Returns how many cards have another place then. */
        int shuffleAt(int top, int[] before) {
            copyRow(order, before);
            int left = left();
            int moved = 0;
            for (int place = 0; place < left; place++) {
                int old = placeBefore(place, top, left);
                put(order, dealt + place, at(before, dealt + old));
                if (old != place) {
                    moved++;
                }
            }
            return moved;
        }

        int marksOf(int card) {
            return from == null ? NONE : at(from.marks, card);
        }

        int marksAt(int place) {
            return marksOf(cardAt(place));
        }

        int canBeAt(int place) {
            int seen = marksAt(place);
            int left = left();
            int cards = 0;
            for (int other = 0; other < left; other++) {
                if (marksAt(other) == seen) {
                    cards++;
                }
            }
            return cards;
        }

        int guessAt(int place) {
            int seen = marksAt(place);
            int left = left();
            int lowest = cardAt(place);
            for (int other = 0; other < left; other++) {
                if (marksAt(other) == seen) {
                    lowest = Math.min(lowest, cardAt(other));
                }
            }
            return lowest;
        }

        int known() {
            int left = left();
            int cards = 0;
            for (int place = 0; place < left; place++) {
                if (canBeAt(place) == 1) {
                    cards++;
                }
            }
            return cards;
        }

        int guessedRight() {
            int left = left();
            int cards = 0;
            for (int place = 0; place < left; place++) {
                if (guessAt(place) == cardAt(place)) {
                    cards++;
                }
            }
            return cards;
        }

        float sumOfChances() {
            int left = left();
            float sum = 0.0f;
            for (int place = 0; place < left; place++) {
                int cards = canBeAt(place);
                if (cards > 0) {
                    sum += 1.0f / cards;
                }
            }
            return sum;
        }
    }

    /** Everything that an undo brings back. */
    private static final class State {
        final int[] cards = new int[CELLS];
        final int[] leans = new int[CELLS];
        final int[] backs = new int[CELLS];
        final int[] settings = new int[SETTINGS];
        /** The sheets from the lowest one up. */
        final Sheet[] pile = new Sheet[MOST_SHEETS];
        final Pack pack = new Pack();
        int piled = 0;
        int printed = 0;
        int sold = 0;
        int pulped = 0;
        int coins = 0;

        State() {
            for (int cell = 0; cell < CELLS; cell++) {
                cards[cell] = cell;
            }
            for (int which = 0; which < SETTINGS; which++) {
                settings[which] = at(FIRST_OF_SETTING, which);
            }
        }

        void copyFrom(State other) {
            if (other == null) {
                return;
            }
            copyRow(other.cards, cards);
            copyRow(other.leans, leans);
            copyRow(other.backs, backs);
            copyRow(other.settings, settings);
            for (int sheet = 0; sheet < MOST_SHEETS; sheet++) {
                pile[sheet] = other.pile[sheet];
            }
            pack.copyFrom(other.pack);
            piled = other.piled;
            printed = other.printed;
            sold = other.sold;
            pulped = other.pulped;
            coins = other.coins;
        }

        void exchange(int cell, int other) {
            int card = at(cards, cell);
            put(cards, cell, at(cards, other));
            put(cards, other, card);
        }

        int cellOf(int card) {
            for (int cell = 0; cell < CELLS; cell++) {
                if (cards[cell] == card) {
                    return cell;
                }
            }
            return NONE;
        }

        boolean hasMark(int cell, int mark) {
            return (at(backs, cell) >> mark & 1) == 1;
        }

        void setMark(int cell, int mark, boolean is) {
            int others = at(backs, cell) & ~(1 << mark);
            put(backs, cell, is ? others | 1 << mark : others);
        }

        int marksOnBacks() {
            int marks = 0;
            for (int cell = 0; cell < CELLS; cell++) {
                marks += Integer.bitCount(backs[cell]);
            }
            return marks;
        }

        /** The sheet so many below the top one; null if there is none. */
        Sheet sheetAt(int below) {
            if (below < 0 || below >= piled || piled > MOST_SHEETS) {
                return null;
            }
            return pile[piled - 1 - below];
        }

        void printSheet(boolean turned) {
            if (piled < 0 || piled >= MOST_SHEETS) {
                return;
            }
            pile[piled] = new Sheet(cards, leans, backs, turned);
            piled++;
            printed++;
            wear();
        }

        private void wear() {
            int every = at(settings, WEAR_SETTING);
            if (every > 0 && printed % every == 0) {
                setMark(printed % CELLS, printed / every % MARKS, true);
            }
        }

        Sheet takeTopSheet() {
            Sheet top = sheetAt(0);
            if (top != null) {
                piled--;
                pile[piled] = null;
            }
            return top;
        }

        /** 0 if the pack on the table can be sold. */
        int reasonAgainstSale() {
            Sheet sheet = pack.from;
            if (pack.dealt > 0) {
                return DEALT_FROM;
            }
            if (sheet != null && courtsBeyond(sheet.leans, at(settings, LEAN_SETTING)) > 0) {
                return COURT_LEANS;
            }
            return pack.known() > at(settings, KNOWN_SETTING) ? TOO_MANY_KNOWN : 0;
        }

        /** How many cards would be known of a pack printed now if one cell had no marks. */
        int knownIfPrinted(boolean turned, int bareCell) {
            // One bit for each of the 16 sets of marks.
            int seen = 0;
            int seenAgain = 0;
            for (int cell = 0; cell < CELLS; cell++) {
                int behind = turned ? CELLS - 1 - cell : cell;
                int marks = behind == bareCell ? 0 : at(backs, behind);
                seenAgain |= seen & 1 << marks;
                seen |= 1 << marks;
            }
            return Integer.bitCount(seen & ~seenAgain);
        }
    }

    /** The latest states, in a ring. */
    private static final class History {
        final State[] states = new State[MOST_STATES];
        int next = 0;
        int size = 0;

        History() {
            for (int k = 0; k < MOST_STATES; k++) {
                states[k] = new State();
            }
        }

        /** When the ring is full, this goes over the oldest state. */
        void record(State state) {
            copyTo(next, state);
            next = (next + 1) % MOST_STATES;
            size = Math.min(size + 1, MOST_STATES);
        }

        void takeLatestInto(State state) {
            if (size == 0) {
                return;
            }
            next = (next + MOST_STATES - 1) % MOST_STATES;
            size--;
            if (next >= 0 && next < MOST_STATES) {
                state.copyFrom(states[next]);
            }
        }

        private void copyTo(int index, State state) {
            if (index < 0 || index >= MOST_STATES) {
                return;
            }
            State slot = states[index];
            if (slot != null) {
                slot.copyFrom(state);
            }
        }
    }

    /** The text, and the changes that were read from it the last time. */
    private static final class Text {
        final char[] signs = new char[MOST_SIGNS];
        int length = 0;
        /** The first sign that is not read yet. */
        int next = 0;
        final char[] kinds = new char[MOST_CHANGES];
        final int[] firsts = new int[MOST_CHANGES];
        final int[] seconds = new int[MOST_CHANGES];
        int changes = 0;

        void append(char sign) {
            if (length >= 0 && length < MOST_SIGNS) {
                signs[length] = sign;
                length++;
            }
        }

        char kindOf(int change) {
            return change >= 0 && change < MOST_CHANGES ? kinds[change] : 0;
        }

        /** Reads the changes; returns the index of the fault, or NONE. */
        int findFault() {
            next = 0;
            changes = 0;
            for (int read = 0; read < MOST_SIGNS; read++) {
                if (!readChange()) {
                    return next;
                }
                if (next == length) {
                    return NONE;
                }
                if (!take(';')) {
                    return next;
                }
            }
            return next;
        }

        boolean leansAnotherThanCourts() {
            for (int change = 0; change < changes; change++) {
                if (kindOf(change) == 'l' && !isCourt(at(firsts, change))) {
                    return true;
                }
            }
            return false;
        }

        /** Where it answers false, as the functions below do, the fault is at the next sign. */
        private boolean readChange() {
            char kind = nextSign();
            if (kind != 's' && kind != 'm' && kind != 'u' && kind != 'l') {
                return false;
            }
            next++;
            int first = readNumber(0, CELLS - 1);
            if (first == NONE || !take(kind == 's' ? '/' : '=')) {
                return false;
            }
            boolean below = kind == 'l' && take('-');
            int second = readNumber(below ? 1 : 0, mostBehind(kind));
            if (second == NONE) {
                return false;
            }
            addChange(kind, first, below ? -second : second);
            return true;
        }

        private static int mostBehind(char kind) {
            if (kind == 's') {
                return CELLS - 1;
            }
            return kind == 'l' ? MOST_LEAN : MOST_MARK;
        }

        private void addChange(char kind, int first, int second) {
            if (changes >= 0 && changes < MOST_CHANGES) {
                kinds[changes] = kind;
                firsts[changes] = first;
                seconds[changes] = second;
                changes++;
            }
        }

        /** The sign 0 stands for the end, too: it is allowed nowhere. */
        private char nextSign() {
            return next >= 0 && next < length && next < MOST_SIGNS ? signs[next] : 0;
        }

        private boolean take(char sign) {
            if (nextSign() != sign) {
                return false;
            }
            next++;
            return true;
        }

        /** Takes the digits that are allowed, with a first one of at least so much. */
        private int readNumber(int leastDigit, int most) {
            int value = nextDigit();
            if (value == NONE || value < leastDigit || value > most) {
                return NONE;
            }
            next++;
            int digit = nextDigit();
            if (value == 0 || digit == NONE || 10 * value + digit > most) {
                return value;
            }
            next++;
            return 10 * value + digit;
        }

        private int nextDigit() {
            char sign = nextSign();
            return sign >= '0' && sign <= '9' ? sign - '0' : NONE;
        }
    }
}
