import java.util.ArrayList;
import java.util.Arrays;

/**
 * A register of place names by days. The document ../shared/DOC.md promises what each call answers.
 *
 * <p>Every change is kept as an order in a journal; undoing cuts the journal and tells the rest again.
 */
public final class PlaceRegister {
    public static final int NONE = -1, BAD = -2, STATE = -3, FULL = -4;

    private static final int NOTHING = -5;
    private static final int WRONG_TEXT = -100;
    private static final int REFUSED_COMMAND = -200;
    private static final int DAYS = 10000;
    private static final int KINDS = 4;
    private static final int MOST_PLACES = 20;
    private static final int MOST_FILTERS = 8;
    private static final int MOST_CHANGES = 6;
    private static final int MOST_LETTERS = 8;
    private static final int MOST_DISTANCE = 3;
    private static final int KEPT_EVENTS = 24;
    private static final int TAPE_SIZE = 80;
    // A command on the tape costs at least one feed, so 512 calls never bring more orders than this.
    private static final int MOST_ORDERS = 512;

    private final Tape tape = new Tape();
    private final Reader reader = new Reader();
    private final World world = new World();
    private final Spelling spelling = new Spelling();
    private final Timeline retold = new Timeline();
    private final StringBuilder paper = new StringBuilder();
    private final ArrayList<Order> journal = new ArrayList<Order>();
    private final ArrayList<Order> snapshot = new ArrayList<Order>();
    private boolean hasSnapshot = false;
    // How long the journal was before each of the changes that can be undone.
    private final int[] marks = new int[MOST_CHANGES];
    private int changes = 0;
    private int latestReason = NOTHING;
    private final int[] hits = new int[MOST_PLACES];
    private int hitCount = 0;

    public PlaceRegister() {
    }

    public int feed(int n, int a, int b, int c, int d, int e) {
        if (n < 1 || n > 5) {
            return BAD;
        }
        if (!isByte(a) || !isByte(b) || !isByte(c) || !isByte(d) || !isByte(e)) {
            return BAD;
        }
        if (tape.length() + n > TAPE_SIZE) {
            return FULL;
        }
        tape.append(a);
        if (n > 1) {
            tape.append(b);
        }
        if (n > 2) {
            tape.append(c);
        }
        if (n > 3) {
            tape.append(d);
        }
        if (n > 4) {
            tape.append(e);
        }
        return tape.length();
    }

    public int found(int kind, int parent, int day) {
        long word = tape.takeWord();
        if (kind < 0 || kind >= KINDS) {
            return NONE;
        }
        return tell(new Order(Order.FOUND, kind, parent, day, word));
    }

    public int rename(int place, int day) {
        return tell(new Order(Order.RENAME, place, 0, day, tape.takeWord()));
    }

    public int move(int place, int parent, int day) {
        return tell(new Order(Order.MOVE, place, parent, day, 0L));
    }

    public int split(int place, int day) {
        return tell(new Order(Order.SPLIT, place, 0, day, tape.takeWord()));
    }

    public int merge(int place, int into, int day) {
        return tell(new Order(Order.MERGE, place, into, day, 0L));
    }

    public int close(int place, int day) {
        return tell(new Order(Order.CLOSE, place, 0, day, 0L));
    }

    public int run() {
        int wrong = reader.read(tape);
        tape.clear();
        if (wrong >= 0) {
            return WRONG_TEXT - wrong;
        }
        int commands = reader.size();
        int mark = journal.size();
        if (mark + commands > MOST_ORDERS) {
            return FULL;
        }
        for (int i = 0; i < commands; i++) {
            Order order = reader.order(i);
            int why = Rules.refusal(world, order);
            if (why != Rules.ALLOWED) {
                latestReason = why;
                cutJournal(mark);
                tellAgain();
                return REFUSED_COMMAND - i;
            }
            journal.add(order);
            world.carryOut(order);
        }
        keepMark(mark);
        return commands;
    }

    public int reason() {
        return latestReason;
    }

    public int on(int place, int day, int what) {
        Place it = world.place(place);
        if (it == null || what < 0 || what > 6 && what < 10) {
            return NONE;
        }
        if (!isDay(day)) {
            return BAD;
        }
        switch (what) {
            case 0:
                return it.existsOn(day) ? 1 : 0;
            case 1:
                return it.kind;
            case 6:
                return world.heirOf(place, day);
            default:
                return it.existsOn(day) ? partOn(place, it, day, what) : NOTHING;
        }
    }

    private int partOn(int place, Place it, int day, int what) {
        switch (what) {
            case 2:
                return it.parents.at(day);
            case 3:
                return Words.lengthOf(it.names.at(day));
            case 4:
                return world.parentsAbove(it, day);
            case 5:
                return world.childrenOf(place, day);
            default:
                int letter = Words.letterOf(it.names.at(day), what - 10);
                return letter == 0 ? NOTHING : 'a' - 1 + letter;
        }
    }

    public int of(int place, int what) {
        Place it = world.place(place);
        if (it == null) {
            return NONE;
        }
        switch (what) {
            case 0:
                return it.founded;
            case 1:
                return it.ended;
            case 2:
                return it.names.size();
            case 3:
                return it.parentsGiven;
            case 4:
                return it.latest;
            case 5:
                return it.history.told();
            default:
                return NONE;
        }
    }

    public int event(int place, int i, int what) {
        Place it = world.place(place);
        if (it == null || i < 0 || i >= it.history.kept()) {
            return NONE;
        }
        switch (what) {
            case 0:
                return it.history.dayOf(i);
            case 1:
                return it.history.sortOf(i);
            case 2:
                return it.history.numberOf(i);
            default:
                return NONE;
        }
    }

    public int again(int place, int day) {
        Place it = world.place(place);
        if (it == null) {
            return NONE;
        }
        if (!isDay(day)) {
            return BAD;
        }
        if (it.history.told() > KEPT_EVENTS) {
            return STATE;
        }
        return it.history.parentOn(day, retold);
    }

    public int lookup(int day, int distance) {
        long word = tape.takeWord();
        if (!isDay(day) || distance < 0 || distance > MOST_DISTANCE) {
            return BAD;
        }
        if (word == 0L) {
            latestReason = Rules.NO_WORD;
            return STATE;
        }
        hitCount = 0;
        for (int wanted = 0; wanted <= distance; wanted++) {
            keepHits(word, day, wanted);
        }
        return hitCount;
    }

    private void keepHits(long word, int day, int wanted) {
        for (int p = 0; p < world.size(); p++) {
            Place it = world.place(p);
            if (it == null || !it.existsOn(day) || hitCount >= hits.length) {
                continue;
            }
            if (spelling.distance(word, it.names.at(day)) == wanted) {
                hits[hitCount] = p;
                hitCount++;
            }
        }
    }

    public int sought(int i) {
        if (i < 0) {
            return NONE;
        }
        return i < hitCount && i < hits.length ? hits[i] : NOTHING;
    }

    public int filter(int sort, int v) {
        if (sort < 0 || sort >= Filters.BOTH) {
            return NONE;
        }
        if (v < 0 || v >= DAYS) {
            return BAD;
        }
        if (world.filters.size() >= MOST_FILTERS) {
            return FULL;
        }
        return tell(new Order(Order.FILTER, sort, v, 0, 0L));
    }

    public int join(int how, int first, int second) {
        if (how < 0 || how > 2 || !world.filters.has(first)) {
            return NONE;
        }
        if (how < 2 && !world.filters.has(second)) {
            return NONE;
        }
        if (world.filters.size() >= MOST_FILTERS) {
            return FULL;
        }
        return tell(new Order(Order.JOIN, first, second, how, 0L));
    }

    public int drop(int filter) {
        if (!world.filters.has(filter)) {
            return NONE;
        }
        return tell(new Order(Order.DROP, filter, 0, 0, 0L));
    }

    public int fits(int filter, int day) {
        if (!world.filters.has(filter)) {
            return NONE;
        }
        if (!isDay(day)) {
            return BAD;
        }
        return world.filters.setOn(filter, day, world);
    }

    public int write(int place) {
        Place it = world.place(place);
        if (it == null) {
            return NONE;
        }
        paper.setLength(0);
        it.history.print(paper);
        return paper.length();
    }

    public int paper(int i) {
        if (i < 0) {
            return NONE;
        }
        return i < paper.length() ? paper.charAt(i) : NOTHING;
    }

    public int changed(int day, int other) {
        if (!isDay(day) || !isDay(other)) {
            return BAD;
        }
        int set = 0;
        for (int p = 0; p < world.size(); p++) {
            Place it = world.place(p);
            if (it != null && it.differsOn(day, other)) {
                set |= 1 << p;
            }
        }
        return set;
    }

    public int longest(int place, int what) {
        Place it = world.place(place);
        if (it == null) {
            return NONE;
        }
        int name = it.names.longestHeld(it.end());
        switch (what) {
            case 0:
                return it.names.dayOf(name);
            case 1:
                return it.names.daysOf(name, it.end());
            case 2:
                return Words.lengthOf(it.names.wordOf(name));
            default:
                return NONE;
        }
    }

    public int account(int day, int what) {
        if (what < 0 || what > 8) {
            return NONE;
        }
        if (!isDay(day)) {
            return BAD;
        }
        switch (what) {
            case 4:
                return Integer.bitCount(world.existingOn(day));
            case 5:
                return world.notFoundedOn(day);
            case 6:
                return world.endedOn(day);
            case 7:
                return world.differentNamesOn(day);
            case 8:
                return world.mostChildrenOn(day);
            default:
                return Integer.bitCount(world.leafSet(Filters.KIND, what, day));
        }
    }

    public int back() {
        if (changes < 1 || changes > marks.length) {
            return STATE;
        }
        changes--;
        cutJournal(marks[changes]);
        tellAgain();
        return changes;
    }

    public int image() {
        copyOrders(journal, snapshot);
        hasSnapshot = true;
        return world.size();
    }

    public int undo() {
        if (!hasSnapshot) {
            return STATE;
        }
        copyOrders(snapshot, journal);
        changes = 0;
        tellAgain();
        return world.size();
    }

    public int count(int what) {
        switch (what) {
            case 0:
                return world.size();
            case 1:
                return world.filters.size();
            case 2:
                return tape.length();
            case 3:
                return changes;
            case 4:
                return world.merges;
            case 5:
                return world.splits;
            default:
                return NONE;
        }
    }

    private static boolean isByte(int value) {
        return value >= 0 && value <= 127;
    }

    private static boolean isDay(int day) {
        return day >= 0 && day < DAYS;
    }

    private int tell(Order order) {
        int why = Rules.refusal(world, order);
        if (why != Rules.ALLOWED) {
            latestReason = why;
            return STATE;
        }
        if (journal.size() >= MOST_ORDERS) {
            return FULL;
        }
        keepMark(journal.size());
        journal.add(order);
        return world.carryOut(order);
    }

    private void keepMark(int mark) {
        if (changes >= marks.length) {
            System.arraycopy(marks, 1, marks, 0, marks.length - 1);
            changes = marks.length - 1;
        }
        marks[changes] = mark;
        changes++;
    }

    private void cutJournal(int length) {
        for (int last = journal.size() - 1; last >= length && last >= 0; last--) {
            journal.remove(last);
        }
    }

    private void tellAgain() {
        world.clear();
        for (int i = 0; i < journal.size(); i++) {
            world.carryOut(journal.get(i));
        }
    }

    private static void copyOrders(ArrayList<Order> source, ArrayList<Order> target) {
        target.clear();
        for (int i = 0; i < source.size(); i++) {
            target.add(source.get(i));
        }
    }

    /** What a successful call told the register; it never changes, so journal and snapshot share it. */
    private static final class Order {
        static final int FOUND = 0, RENAME = 1, MOVE = 2, SPLIT = 3, MERGE = 4, CLOSE = 5;
        static final int FILTER = 6, JOIN = 7, DROP = 8;

        final int sort;
        final int first;
        final int second;
        // The third number of an order that is no event: how filters are joined.
        final int day;
        final long word;

        Order(int sort, int first, int second, int day, long word) {
            this.sort = sort;
            this.first = first;
            this.second = second;
            this.day = day;
            this.word = word;
        }
    }

    /** Words packed into a number, five bits a letter, so that keeping and comparing them makes no objects. */
    private static final class Words {
        static long with(long word, int k, int letter) {
            return word | (long) letter << 5 * k;
        }

        /** Returns 1 to 26 for a to z, 0 if the word has no such letter. */
        static int letterOf(long word, int k) {
            return k < 0 || k >= MOST_LETTERS ? 0 : (int) (word >> 5 * k & 31L);
        }

        static int lengthOf(long word) {
            int length = 0;
            for (int k = 0; k < MOST_LETTERS; k++) {
                if (letterOf(word, k) != 0) {
                    length++;
                }
            }
            return length;
        }

        static boolean isLetter(int sign) {
            return sign >= 'a' && sign <= 'z';
        }
    }

    /** The least number of changed letters between two words. */
    private static final class Spelling {
        private final int[] row = new int[MOST_LETTERS + 1];

        int distance(long one, long other) {
            int height = Words.lengthOf(one);
            int width = Words.lengthOf(other);
            for (int k = 0; k < row.length; k++) {
                row[k] = k;
            }
            for (int i = 1; i <= height; i++) {
                nextRow(i, Words.letterOf(one, i - 1), other);
            }
            return width < row.length ? row[width] : 0;
        }

        private void nextRow(int i, int letter, long other) {
            int corner = row[0];
            row[0] = i;
            for (int k = 1; k < row.length; k++) {
                int above = row[k];
                int replaced = Words.letterOf(other, k - 1) == letter ? corner : corner + 1;
                row[k] = Math.min(replaced, Math.min(above, row[k - 1]) + 1);
                corner = above;
            }
        }
    }

    /** The bytes that were fed. */
    private static final class Tape {
        private final int[] bytes = new int[TAPE_SIZE];
        private int length = 0;

        int length() {
            return length;
        }

        void clear() {
            length = 0;
        }

        void append(int value) {
            if (length < bytes.length) {
                bytes[length] = value;
                length++;
            }
        }

        /** Returns the byte, -1 behind the end. */
        int at(int i) {
            return i >= 0 && i < length && i < bytes.length ? bytes[i] : -1;
        }

        /** Empties the tape; returns the word that it was, 0 if it was none. */
        long takeWord() {
            int letters = length;
            length = 0;
            if (letters > MOST_LETTERS) {
                return 0L;
            }
            long word = 0L;
            for (int k = 0; k < letters; k++) {
                if (!Words.isLetter(bytes[k])) {
                    return 0L;
                }
                word = Words.with(word, k, bytes[k] - 'a' + 1);
            }
            return word;
        }
    }

    /** Reads the tape as commands; while it reads, the position is that of the first byte that is not used. */
    private static final class Reader {
        private static final int MOST_DIGITS = 4;

        private final ArrayList<Order> orders = new ArrayList<Order>();
        private int position = 0;
        private int number = 0;
        private long word = 0L;

        int size() {
            return orders.size();
        }

        /** The index is from 0 to size() - 1. */
        Order order(int i) {
            return i >= 0 && i < orders.size() ? orders.get(i) : null;
        }

        /** Returns the error position, -1 if the text is right. */
        int read(Tape tape) {
            orders.clear();
            position = 0;
            for (int commands = 0; commands < TAPE_SIZE; commands++) {
                if (!readCommand(tape)) {
                    return position;
                }
                if (position == tape.length()) {
                    return -1;
                }
                if (!readSign(tape, ';')) {
                    return position;
                }
            }
            return position;
        }

        private boolean readCommand(Tape tape) {
            int sort = sortFor(tape.at(position));
            if (sort < 0) {
                return false;
            }
            position++;
            if (!(sort == Order.FOUND ? readKind(tape) : readNumber(tape))) {
                return false;
            }
            int first = number;
            int second = 0;
            if (sort == Order.FOUND || sort == Order.MOVE || sort == Order.MERGE) {
                if (!readSign(tape, '>') || !readNumber(tape)) {
                    return false;
                }
                second = number;
            }
            if (!readSign(tape, '@') || !readNumber(tape)) {
                return false;
            }
            int day = number;
            word = 0L;
            if (sort == Order.FOUND || sort == Order.RENAME || sort == Order.SPLIT) {
                if (!readSign(tape, ':') || !readWord(tape)) {
                    return false;
                }
            }
            orders.add(new Order(sort, first, second, day, word));
            return true;
        }

        private static int sortFor(int sign) {
            switch (sign) {
                case 'f':
                    return Order.FOUND;
                case 'r':
                    return Order.RENAME;
                case 'm':
                    return Order.MOVE;
                case 's':
                    return Order.SPLIT;
                case 'g':
                    return Order.MERGE;
                case 'c':
                    return Order.CLOSE;
                default:
                    return -1;
            }
        }

        private boolean readSign(Tape tape, int sign) {
            if (tape.at(position) != sign) {
                return false;
            }
            position++;
            return true;
        }

        private boolean readKind(Tape tape) {
            number = tape.at(position) - '0';
            if (number < 0 || number >= KINDS) {
                return false;
            }
            position++;
            return true;
        }

        private boolean readNumber(Tape tape) {
            number = 0;
            int digits = 0;
            while (digits < MOST_DIGITS && tape.at(position) >= '0' && tape.at(position) <= '9') {
                number = 10 * number + tape.at(position) - '0';
                position++;
                digits++;
            }
            return digits > 0;
        }

        private boolean readWord(Tape tape) {
            int letters = 0;
            while (letters < MOST_LETTERS && Words.isLetter(tape.at(position))) {
                word = Words.with(word, letters, tape.at(position) - 'a' + 1);
                position++;
                letters++;
            }
            return letters > 0;
        }
    }

    /** The parents of one place by days: each holds from its start until the next one starts. */
    private static final class Timeline {
        private int[] starts = new int[4];
        private int[] parents = new int[4];
        private int size = 0;

        void begin(int day, int parent) {
            starts[0] = day;
            parents[0] = parent;
            size = 1;
        }

        int at(int day) {
            for (int i = size - 1; i >= 0; i--) {
                if (starts[i] <= day) {
                    return parents[i];
                }
            }
            return NOTHING;
        }

        /** Sets the parent for all days from this one on, whatever was told of them. */
        void put(int day, int parent) {
            while (size > 0 && starts[size - 1] >= day) {
                size--;
            }
            insert(size, day, parent);
        }

        /** Puts a parent in place of another one on all days from this one on. */
        void replace(int day, int old, int parent) {
            // Backwards, so that what is inserted is not met again.
            for (int i = size - 1; i >= 0; i--) {
                if (parents[i] != old || stopOf(i) <= day) {
                    continue;
                }
                if (starts[i] >= day) {
                    parents[i] = parent;
                } else {
                    insert(i + 1, day, parent);
                }
            }
        }

        /** Returns the first day from this one on, and before the end, with this parent, -1 without one. */
        int firstDayWith(int parent, int day, int end) {
            for (int i = 0; i < size; i++) {
                int first = Math.max(starts[i], day);
                if (parents[i] == parent && first < Math.min(stopOf(i), end)) {
                    return first;
                }
            }
            return -1;
        }

        private int stopOf(int i) {
            return i + 1 < size ? starts[i + 1] : DAYS;
        }

        private void insert(int place, int day, int parent) {
            if (size >= starts.length) {
                starts = Arrays.copyOf(starts, 2 * size + 1);
                parents = Arrays.copyOf(parents, 2 * size + 1);
            }
            for (int i = size; i > place; i--) {
                starts[i] = starts[i - 1];
                parents[i] = parents[i - 1];
            }
            starts[place] = day;
            parents[place] = parent;
            size++;
        }
    }

    /** The names of one place, in the order of their days. */
    private static final class Names {
        private int[] days = new int[4];
        private long[] words = new long[4];
        private int size = 0;

        int size() {
            return size;
        }

        void begin(int day, long word) {
            days[0] = day;
            words[0] = word;
            size = 1;
        }

        void append(int day, long word) {
            if (size >= days.length) {
                days = Arrays.copyOf(days, 2 * size + 1);
                words = Arrays.copyOf(words, 2 * size + 1);
            }
            days[size] = day;
            words[size] = word;
            size++;
        }

        long at(int day) {
            for (int i = size - 1; i >= 0; i--) {
                if (days[i] <= day) {
                    return words[i];
                }
            }
            return 0L;
        }

        int dayOf(int i) {
            return i >= 0 && i < size ? days[i] : NOTHING;
        }

        long wordOf(int i) {
            return i >= 0 && i < size ? words[i] : 0L;
        }

        /** The number of days for which the name holds if the place exists before the end. */
        int daysOf(int i, int end) {
            return (i + 1 < size ? dayOf(i + 1) : end) - dayOf(i);
        }

        int longestHeld(int end) {
            int best = 0;
            for (int i = 1; i < size; i++) {
                if (daysOf(i, end) > daysOf(best, end)) {
                    best = i;
                }
            }
            return best;
        }
    }

    /** The events of one place in the order in which they were told; the first ones are kept. */
    private static final class History {
        static final int FOUNDED = 0, NAMED = 1, MOVED = 2, MERGED = 3, CLOSED = 4, SPLIT_OFF = 5;
        static final int TOOK_IN = 6, GAVE_OFF = 7, PARENT_MERGED = 8;
        private static final String SIGNS = "FNMGCOTSP";

        private final int[] days = new int[KEPT_EVENTS];
        private final int[] sorts = new int[KEPT_EVENTS];
        private final int[] numbers = new int[KEPT_EVENTS];
        private int told = 0;

        int told() {
            return told;
        }

        int kept() {
            return Math.min(told, KEPT_EVENTS);
        }

        void begin(int day, int parent) {
            days[0] = day;
            sorts[0] = FOUNDED;
            numbers[0] = parent;
            told = 1;
        }

        void append(int day, int sort, int number) {
            if (told < KEPT_EVENTS) {
                days[told] = day;
                sorts[told] = sort;
                numbers[told] = number;
            }
            told++;
        }

        int dayOf(int i) {
            return i >= 0 && i < kept() ? days[i] : NOTHING;
        }

        int sortOf(int i) {
            return i >= 0 && i < kept() ? sorts[i] : NOTHING;
        }

        int numberOf(int i) {
            return i >= 0 && i < kept() ? numbers[i] : NOTHING;
        }

        void print(StringBuilder paper) {
            for (int i = 0; i < kept(); i++) {
                if (i > 0) {
                    paper.append(' ');
                }
                int sort = sorts[i];
                paper.append(sort >= 0 && sort < SIGNS.length() ? SIGNS.charAt(sort) : ' ');
                paper.append(days[i]);
                if (numbers[i] != NOTHING) {
                    paper.append(':');
                    paper.append(numbers[i]);
                }
            }
        }

        /** The parent on a day as these events tell it; the timeline is free to be written over. */
        int parentOn(int day, Timeline parents) {
            boolean exists = false;
            for (int i = 0; i < kept(); i++) {
                switch (sorts[i]) {
                    case FOUNDED:
                        exists = days[i] <= day;
                        parents.begin(days[i], numbers[i]);
                        break;
                    case MOVED:
                        parents.put(days[i], numbers[i]);
                        break;
                    case PARENT_MERGED:
                        // The parent of the first day is the one that ended; the event does not name it.
                        parents.replace(days[i], parents.at(days[i]), numbers[i]);
                        break;
                    case MERGED:
                    case CLOSED:
                        exists = exists && day < days[i];
                        break;
                    default:
                        break;
                }
            }
            return exists ? parents.at(day) : NOTHING;
        }
    }

    /** One place. */
    private static final class Place {
        int kind = 0;
        int founded = 0;
        int ended = NOTHING;
        int into = NOTHING;
        int latest = 0;
        int parentsGiven = 0;
        final Names names = new Names();
        final Timeline parents = new Timeline();
        final History history = new History();

        void begin(int newKind, int parent, int day, long word) {
            kind = newKind;
            founded = day;
            ended = NOTHING;
            into = NOTHING;
            latest = day;
            parentsGiven = parent == NOTHING ? 0 : 1;
            names.begin(day, word);
            parents.begin(day, parent);
            history.begin(day, parent);
        }

        void remember(int day, int sort, int number) {
            latest = day;
            history.append(day, sort, number);
        }

        boolean hasEnded() {
            return ended != NOTHING;
        }

        /** The first day on which it does not exist any more. */
        int end() {
            return hasEnded() ? ended : DAYS;
        }

        boolean existsOn(int day) {
            return founded <= day && day < end();
        }

        /** Whether others may lean on it for all days from this one on. */
        boolean standsFrom(int day) {
            return founded <= day && !hasEnded();
        }

        int firstDayUnder(int parent, int day) {
            return parents.firstDayWith(parent, day, end());
        }

        boolean differsOn(int day, int other) {
            if (!existsOn(day) || !existsOn(other)) {
                return false;
            }
            return parents.at(day) != parents.at(other) || names.at(day) != names.at(other);
        }
    }

    /** Filters, kept as nodes in the order of their making, so that a filter stands behind those it is made of. */
    private static final class Filters {
        static final int KIND = 0, PARENT = 1, LETTERS = 2, FOUNDED = 3, ABOVE = 4;
        static final int BOTH = 5, EITHER = 6, NOT = 7;

        private int[] sorts = new int[MOST_FILTERS];
        private int[] firsts = new int[MOST_FILTERS];
        private int[] seconds = new int[MOST_FILTERS];
        private int[] sets = new int[MOST_FILTERS];
        private int nodes = 0;
        private final int[] nodeOf = new int[MOST_FILTERS];
        private int size = 0;

        int size() {
            return size;
        }

        boolean has(int filter) {
            return filter >= 0 && filter < size;
        }

        void clear() {
            nodes = 0;
            size = 0;
        }

        int addLeaf(int sort, int v) {
            return append(sort, v, 0);
        }

        int addJoined(int how, int first, int second) {
            if (!has(first)) {
                return NONE;
            }
            return append(BOTH + how, nodeOf[first], has(second) ? nodeOf[second] : 0);
        }

        private int append(int sort, int first, int second) {
            if (size >= nodeOf.length) {
                return FULL;
            }
            if (nodes >= sorts.length) {
                sorts = Arrays.copyOf(sorts, 2 * nodes + 1);
                firsts = Arrays.copyOf(firsts, 2 * nodes + 1);
                seconds = Arrays.copyOf(seconds, 2 * nodes + 1);
                sets = Arrays.copyOf(sets, 2 * nodes + 1);
            }
            sorts[nodes] = sort;
            firsts[nodes] = first;
            seconds[nodes] = second;
            nodeOf[size] = nodes;
            nodes++;
            size++;
            return size - 1;
        }

        /** The node stays: other filters may be made of it. */
        int remove(int filter) {
            if (!has(filter)) {
                return NONE;
            }
            size--;
            for (int i = filter; i < size; i++) {
                nodeOf[i] = nodeOf[i + 1];
            }
            return size;
        }

        int setOn(int filter, int day, World world) {
            if (!has(filter)) {
                return 0;
            }
            int wanted = nodeOf[filter];
            // From the first node on, and not from the wanted one down: joins of joins may be very deep.
            for (int node = 0; node < nodes && node <= wanted; node++) {
                sets[node] = setOfNode(node, day, world);
            }
            return setAt(wanted);
        }

        private int setOfNode(int node, int day, World world) {
            switch (sorts[node]) {
                case BOTH:
                    return setAt(firsts[node]) & setAt(seconds[node]);
                case EITHER:
                    return setAt(firsts[node]) | setAt(seconds[node]);
                case NOT:
                    return world.existingOn(day) & ~setAt(firsts[node]);
                default:
                    return world.leafSet(sorts[node], firsts[node], day);
            }
        }

        private int setAt(int node) {
            return node >= 0 && node < nodes ? sets[node] : 0;
        }
    }

    /** All places and filters, as the orders of the journal made them. */
    private static final class World {
        final Filters filters = new Filters();
        int merges = 0;
        int splits = 0;
        private final Place[] places = new Place[MOST_PLACES];
        private int size = 0;

        World() {
            for (int p = 0; p < MOST_PLACES; p++) {
                places[p] = new Place();
            }
        }

        int size() {
            return size;
        }

        boolean isFull() {
            return size >= places.length;
        }

        /** Returns the place, null if there is no such one. */
        Place place(int p) {
            return p >= 0 && p < size && p < places.length ? places[p] : null;
        }

        void clear() {
            size = 0;
            merges = 0;
            splits = 0;
            filters.clear();
        }

        /** Does what no rule refuses; returns the answer that is due for it. */
        int carryOut(Order order) {
            if (order == null) {
                return STATE;
            }
            switch (order.sort) {
                case Order.FOUND:
                    return settle(order.first, order.first == 0 ? NOTHING : order.second, order.day, order.word);
                case Order.FILTER:
                    return filters.addLeaf(order.first, order.second);
                case Order.JOIN:
                    return filters.addJoined(order.day, order.first, order.second);
                case Order.DROP:
                    return filters.remove(order.first);
                default:
                    break;
            }
            Place it = place(order.first);
            if (it == null) {
                return STATE;
            }
            switch (order.sort) {
                case Order.RENAME:
                    return giveName(it, order.day, order.word);
                case Order.MOVE:
                    return giveParent(it, order.second, order.day);
                case Order.SPLIT:
                    return splitOff(order.first, it, order.day, order.word);
                case Order.MERGE:
                    return takeIn(order.first, it, order.second, order.day);
                default:
                    it.ended = order.day;
                    it.remember(order.day, History.CLOSED, NOTHING);
                    return order.day - it.founded;
            }
        }

        private int settle(int kind, int parent, int day, long word) {
            if (isFull()) {
                return STATE;
            }
            Place it = places[size];
            if (it == null) {
                return STATE;
            }
            it.begin(kind, parent, day, word);
            size++;
            return size - 1;
        }

        private static int giveName(Place it, int day, long word) {
            int before = Words.lengthOf(it.names.at(day));
            it.names.append(day, word);
            it.remember(day, History.NAMED, Words.lengthOf(word));
            return before;
        }

        private static int giveParent(Place it, int parent, int day) {
            int before = it.parents.at(day);
            it.parents.put(day, parent);
            it.parentsGiven++;
            it.remember(day, History.MOVED, parent);
            return before;
        }

        private int splitOff(int p, Place it, int day, long word) {
            int fresh = settle(it.kind, it.parents.at(day), day, word);
            Place other = place(fresh);
            if (other == null) {
                return STATE;
            }
            other.remember(day, History.SPLIT_OFF, p);
            it.remember(day, History.GAVE_OFF, fresh);
            splits++;
            return fresh;
        }

        private int takeIn(int p, Place it, int into, int day) {
            Place other = place(into);
            if (other == null) {
                return STATE;
            }
            it.ended = day;
            it.into = into;
            it.remember(day, History.MERGED, into);
            other.history.append(day, History.TOOK_IN, p);
            merges++;
            int given = 0;
            for (int c = 0; c < size; c++) {
                Place child = places[c];
                int first = child == null ? -1 : child.firstDayUnder(p, day);
                if (first >= 0) {
                    child.parents.replace(day, p, into);
                    child.history.append(first, History.PARENT_MERGED, into);
                    given++;
                }
            }
            return given;
        }

        boolean isParentFrom(int p, int day) {
            for (int c = 0; c < size; c++) {
                Place child = places[c];
                if (child != null && child.firstDayUnder(p, day) >= 0) {
                    return true;
                }
            }
            return false;
        }

        int heirOf(int p, int day) {
            int heir = p;
            // A place is merged only into one that has not ended, so the row of heirs never comes back.
            for (int step = 0; step <= MOST_PLACES; step++) {
                Place it = place(heir);
                if (it == null) {
                    return NOTHING;
                }
                if (day < it.end()) {
                    return heir;
                }
                heir = it.into;
            }
            return NOTHING;
        }

        int parentsAbove(Place it, int day) {
            int above = 0;
            Place next = place(it.parents.at(day));
            while (next != null && above < KINDS) {
                above++;
                next = place(next.parents.at(day));
            }
            return above;
        }

        boolean isUnder(Place it, int p, int day) {
            int parent = it.parents.at(day);
            for (int step = 0; step < KINDS && parent != p; step++) {
                Place next = place(parent);
                parent = next == null ? NOTHING : next.parents.at(day);
            }
            return parent == p;
        }

        int childrenOf(int p, int day) {
            return Integer.bitCount(leafSet(Filters.PARENT, p, day));
        }

        int existingOn(int day) {
            int set = 0;
            for (int p = 0; p < size; p++) {
                Place it = places[p];
                if (it != null && it.existsOn(day)) {
                    set |= 1 << p;
                }
            }
            return set;
        }

        /** The places that exist on the day and that a filter of this sort and number fits. */
        int leafSet(int sort, int v, int day) {
            int set = 0;
            for (int p = 0; p < size; p++) {
                Place it = places[p];
                if (it != null && it.existsOn(day) && isFitting(it, sort, v, day)) {
                    set |= 1 << p;
                }
            }
            return set;
        }

        private boolean isFitting(Place it, int sort, int v, int day) {
            switch (sort) {
                case Filters.KIND:
                    return it.kind == v;
                case Filters.PARENT:
                    return it.parents.at(day) == v;
                case Filters.LETTERS:
                    return Words.lengthOf(it.names.at(day)) >= v;
                case Filters.FOUNDED:
                    return it.founded >= v;
                default:
                    return isUnder(it, v, day);
            }
        }

        int notFoundedOn(int day) {
            int number = 0;
            for (int p = 0; p < size; p++) {
                Place it = places[p];
                if (it != null && it.founded > day) {
                    number++;
                }
            }
            return number;
        }

        int endedOn(int day) {
            int number = 0;
            for (int p = 0; p < size; p++) {
                Place it = places[p];
                if (it != null && it.end() <= day) {
                    number++;
                }
            }
            return number;
        }

        int differentNamesOn(int day) {
            int number = 0;
            for (int p = 0; p < size; p++) {
                if (isFirstOfItsName(p, day)) {
                    number++;
                }
            }
            return number;
        }

        private boolean isFirstOfItsName(int p, int day) {
            Place it = place(p);
            if (it == null || !it.existsOn(day)) {
                return false;
            }
            for (int q = 0; q < p; q++) {
                Place earlier = place(q);
                if (earlier != null && earlier.existsOn(day) && earlier.names.at(day) == it.names.at(day)) {
                    return false;
                }
            }
            return true;
        }

        int mostChildrenOn(int day) {
            int most = 0;
            for (int p = 0; p < size; p++) {
                most = Math.max(most, childrenOf(p, day));
            }
            return most;
        }
    }

    /** The reasons for which orders are refused, each in the order in which its call lists them. */
    private static final class Rules {
        static final int ALLOWED = 0, NO_PLACE = 1, WRONG_DAY = 2, HAS_ENDED = 3, WRONG_KIND = 4;
        static final int NOT_STANDING = 5, NO_ROOM = 6, IS_PARENT = 7, INTO_ITSELF = 8, NO_WORD = 9;

        static int refusal(World world, Order order) {
            if (order == null) {
                return NO_PLACE;
            }
            switch (order.sort) {
                case Order.FOUND:
                    return order.first == 0 ? refusalOfRealm(world, order) : refusalOfChild(world, order);
                case Order.RENAME:
                    return order.word == 0L ? NO_WORD : refusalOfEvent(world, order);
                case Order.MOVE:
                    return refusalOfMove(world, order);
                case Order.SPLIT:
                    return order.word == 0L ? NO_WORD : refusalOfSplit(world, order);
                case Order.MERGE:
                    return refusalOfMerge(world, order);
                case Order.CLOSE:
                    int why = refusalOfEvent(world, order);
                    return why == ALLOWED && world.isParentFrom(order.first, order.day) ? IS_PARENT : why;
                default:
                    return ALLOWED;
            }
        }

        private static int refusalOfRealm(World world, Order order) {
            if (order.word == 0L) {
                return NO_WORD;
            }
            if (!isDay(order.day)) {
                return WRONG_DAY;
            }
            return world.isFull() ? NO_ROOM : ALLOWED;
        }

        private static int refusalOfChild(World world, Order order) {
            if (order.word == 0L) {
                return NO_WORD;
            }
            Place parent = world.place(order.second);
            if (parent == null) {
                return NO_PLACE;
            }
            if (!isDay(order.day)) {
                return WRONG_DAY;
            }
            if (parent.kind >= order.first) {
                return WRONG_KIND;
            }
            if (!parent.standsFrom(order.day)) {
                return NOT_STANDING;
            }
            return world.isFull() ? NO_ROOM : ALLOWED;
        }

        /** What every event of a place that is founded needs. */
        private static int refusalOfEvent(World world, Order order) {
            Place it = world.place(order.first);
            if (it == null) {
                return NO_PLACE;
            }
            if (it.hasEnded()) {
                return HAS_ENDED;
            }
            return order.day < it.latest || !isDay(order.day) ? WRONG_DAY : ALLOWED;
        }

        private static int refusalOfMove(World world, Order order) {
            Place it = world.place(order.first);
            Place parent = world.place(order.second);
            if (it == null || parent == null) {
                return NO_PLACE;
            }
            int why = refusalOfEvent(world, order);
            if (why != ALLOWED) {
                return why;
            }
            if (parent.kind >= it.kind) {
                return WRONG_KIND;
            }
            return parent.standsFrom(order.day) ? ALLOWED : NOT_STANDING;
        }

        private static int refusalOfSplit(World world, Order order) {
            int why = refusalOfEvent(world, order);
            Place it = world.place(order.first);
            if (why != ALLOWED || it == null) {
                return why;
            }
            Place parent = world.place(it.parents.at(order.day));
            if (parent != null && !parent.standsFrom(order.day)) {
                return NOT_STANDING;
            }
            return world.isFull() ? NO_ROOM : ALLOWED;
        }

        private static int refusalOfMerge(World world, Order order) {
            Place it = world.place(order.first);
            Place into = world.place(order.second);
            if (it == null || into == null) {
                return NO_PLACE;
            }
            if (order.first == order.second) {
                return INTO_ITSELF;
            }
            int why = refusalOfEvent(world, order);
            if (why != ALLOWED) {
                return why;
            }
            if (it.kind != into.kind) {
                return WRONG_KIND;
            }
            return into.standsFrom(order.day) ? ALLOWED : NOT_STANDING;
        }
    }
}
