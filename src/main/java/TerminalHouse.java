import java.util.Arrays;
import java.util.NoSuchElementException;

/**
 * A house of terminals: descriptions, the machine that puts their strings together, a program's
 * windows, a line discipline, a line, and a terminal with its keys. ../shared/DOC.md says what
 * each call answers; the words in capitals in the comments here are that document's.
 */
public final class TerminalHouse {
    public static final int NONE = -1;

    private static final int CANNOT_BE_USED = -2;
    private static final int MOST_TAPE = 3000;
    private static final int MOST_OUT = 300;
    private static final int MOST_WINDOWS = 8;
    private static final int MOST_LINES = 24;
    private static final int MOST_COLUMNS = 80;
    private static final int MOST_TICKS = 2000;
    private static final int MOST_TIME = 1000000000;
    private static final int TICKS_BETWEEN_SCANS = 4;

    private static final int BLANK = 32;
    private static final int SPOILED = 256;
    private static final int BELL = 7;
    private static final int BACKSPACE = 8;
    private static final int TAB = 9;
    private static final int LINE_FEED = 10;
    private static final int RETURN = 13;
    private static final int GO_ON = 17;
    private static final int HALT = 19;
    private static final int ESCAPE_BYTE = 27;
    private static final int DELETE = 127;

    /** Every ABILITY in five places; its number is its place here, FLAGS first, then NUMBERS. */
    private static final String ABILITY_NAMES = "am   xenl msgr cols linesit   bel  clearhome cup  cuu1 cud1 cub1 cuf1 cuu  cud  cub  cuf  hpa  vpa  cr   ht   ind  csr  el   sgr0 bold smul blinkrev  is   ri   el1  ed   ech  ich  dch  il   dl   ";
    private static final int ABILITY_LETTERS = 5;
    private static final int ABILITIES = 39;
    private static final int AM = 0;
    private static final int XENL = 1;
    private static final int MSGR = 2;
    private static final int COLS = 3;
    private static final int LINES = 4;
    private static final int IT = 5;
    private static final int BEL = 6;
    private static final int CLEAR = 7;
    private static final int HOME = 8;
    private static final int CUP = 9;
    private static final int CUU1 = 10;
    private static final int CUD1 = 11;
    private static final int CUB1 = 12;
    private static final int CUF1 = 13;
    private static final int CUU = 14;
    private static final int CUD = 15;
    private static final int CUB = 16;
    private static final int CUF = 17;
    private static final int HPA = 18;
    private static final int VPA = 19;
    private static final int CR = 20;
    private static final int HT = 21;
    private static final int IND = 22;
    private static final int CSR = 23;
    private static final int EL = 24;
    private static final int SGR0 = 25;
    private static final int BOLD = 26;
    private static final int IS = 30;
    private static final int FIRST_NUMBER = COLS;
    private static final int FIRST_STRING = BEL;
    private static final int STRINGS = ABILITIES - FIRST_STRING;
    private static final int MOST_STRING = 40;

    private final int[] tape = new int[MOST_TAPE];
    private int taped;
    private final int[] out = new int[MOST_OUT];
    private int written;
    private final Reader reader = new Reader();
    private final Machine machine = new Machine();
    private final Painter painter = new Painter();
    private final Window[] windows = new Window[MOST_WINDOWS];
    private final Discipline discipline = new Discipline();
    private final Terminal terminal;
    private final Keyboard keyboard = new Keyboard();
    private final Wire toTerminal = new Wire();
    private final Wire toProgram = new Wire();
    private final int speed;
    private Entry type;
    private int time;

    public TerminalHouse(int rows, int columns, int speed) {
        int evenColumns = nearest(columns, 16, MOST_COLUMNS) / 2 * 2;
        this.terminal = new Terminal(nearest(rows, 4, MOST_LINES), evenColumns);
        this.speed = nearest(speed, 1, 16);
        for (int i = 0; i < MOST_WINDOWS; i++) {
            windows[i] = new Window();
        }
    }

    // ---- the tape, and what is written

    public boolean feed(int a, int b, int c, int d, int e) {
        if (taped + 20 > MOST_TAPE) {
            return false;
        }
        feedFour(a);
        feedFour(b);
        feedFour(c);
        feedFour(d);
        feedFour(e);
        return true;
    }

    private void feedFour(int four) {
        for (int shift = 24; shift >= 0 && taped < MOST_TAPE; shift -= 8) {
            tape[taped] = (four >>> shift) & 255;
            taped++;
        }
    }

    public boolean end(int n) {
        if (n < 0 || n > taped) {
            return false;
        }
        taped = n;
        return true;
    }

    public int octet(int i) throws NoSuchElementException {
        if (i < 0 || i >= written) {
            throw new NoSuchElementException();
        }
        return out[i];
    }

    // ---- descriptions

    public int describe() {
        int answer = reader.readText(tape, taped);
        taped = 0;
        return answer;
    }

    public int fault(int what) {
        switch (what) {
            case 0: return reader.faultNumber;
            case 1: return reader.faultPlace;
            default: return NONE;
        }
    }

    public int use() {
        Entry named = reader.entryNamed(tape, taped);
        taped = 0;
        if (named == null) {
            return NONE;
        }
        if (!named.isUsable()) {
            return CANNOT_BE_USED;
        }
        type = named;
        closeWindows();
        painter.begin(named, machine);
        return 0;
    }

    public void empty() {
        reader.forget();
        type = null;
        closeWindows();
    }

    public int ability() {
        int ability = abilityNamed(tape, 0, taped);
        taped = 0;
        if (type == null || ability == NONE) {
            return NONE;
        }
        if (ability < FIRST_NUMBER) {
            return type.has(ability) ? 1 : 0;
        }
        if (!type.has(ability)) {
            return NONE;
        }
        if (ability < FIRST_STRING) {
            return type.number(ability);
        }
        int length = type.lengthOf(ability);
        System.arraycopy(type.texts, Entry.startOf(ability), out, 0, length);
        written = length;
        return length;
    }

    public int expand(int a, int b, int c, int d) {
        int ability = abilityNamed(tape, 0, taped);
        taped = 0;
        if (type == null || ability < FIRST_STRING || !type.has(ability)) {
            return NONE;
        }
        machine.setParameters(a, b, c, d);
        written = machine.putTogether(type, ability);
        System.arraycopy(machine.made, 0, out, 0, written);
        return written;
    }

    // ---- windows

    public int open(int y, int x, int h, int w) {
        if (type == null || !painter.wanted.wouldHold(y, x, h, w)) {
            return NONE;
        }
        for (int i = 0; i < MOST_WINDOWS; i++) {
            if (!windows[i].isOpen) {
                windows[i].begin(y, x, h, w);
                return i;
            }
        }
        return NONE;
    }

    public boolean close(int window) {
        Window it = openWindow(window);
        if (it == null) {
            return false;
        }
        it.isOpen = false;
        return true;
    }

    public boolean at(int window, int y, int x) {
        Window it = openWindow(window);
        if (it == null || !it.hasCell(y, x)) {
            return false;
        }
        it.row = y;
        it.column = x;
        return true;
    }

    public boolean dress(int window, int attributes) {
        Window it = openWindow(window);
        if (it == null || attributes < 0 || attributes > 15) {
            return false;
        }
        it.attributes = attributes;
        return true;
    }

    public boolean scrolls(int window, boolean on) {
        Window it = openWindow(window);
        if (it == null) {
            return false;
        }
        it.isScrolling = on;
        return true;
    }

    public int say(int window) {
        Window it = openWindow(window);
        int said = it == null ? NONE : sayTape(it);
        taped = 0;
        return said;
    }

    private int sayTape(Window window) {
        for (int i = 0; i < taped; i++) {
            int b = tape[i];
            if (b == LINE_FEED) {
                if (!window.breakLine()) {
                    return i;
                }
            } else if (b == BELL) {
                painter.isBellWanted = true;
            } else if (!window.sayByte(b)) {
                return i + 1;
            }
        }
        return taped;
    }

    public boolean erase(int window, int what) {
        Window it = openWindow(window);
        return it != null && it.blankOut(what);
    }

    public boolean rows(int window, int n) {
        Window it = openWindow(window);
        if (it == null) {
            return false;
        }
        it.slideRows(it.row, n);
        return true;
    }

    public boolean cells(int window, int n) {
        Window it = openWindow(window);
        if (it == null) {
            return false;
        }
        int from = it.row * it.breadth + it.column;
        slide(it.grid, from, it.breadth - it.column, n, BLANK);
        return true;
    }

    public boolean roll(int window, int n) {
        Window it = openWindow(window);
        if (it == null) {
            return false;
        }
        // the least int has no opposite, and is as good as any that rolls all away
        it.slideRows(0, n == Integer.MIN_VALUE ? Integer.MAX_VALUE : -n);
        return true;
    }

    public boolean box(int window) {
        Window it = openWindow(window);
        if (it == null) {
            return false;
        }
        it.drawEdge();
        return true;
    }

    public int look(int window, int y, int x) {
        Window it = openWindow(window);
        return it == null ? NONE : it.cell(y, x);
    }

    public int where(int window, int what) {
        Window it = openWindow(window);
        return it == null ? NONE : it.tell(what);
    }

    public int show(int window) {
        Window it = openWindow(window);
        return it == null ? NONE : it.copyTo(painter.wanted);
    }

    public int update() {
        if (type == null) {
            return NONE;
        }
        int length = painter.paint(discipline.queue.room());
        for (int i = 0; i < length; i++) {
            discipline.queue.add(painter.bytes[i]);
        }
        return length;
    }

    public boolean redraw() {
        if (type == null) {
            return false;
        }
        // a cursor that was known is known still: only the CELLS are STRANGE
        painter.isStrange = true;
        return true;
    }

    public int known(int y, int x) {
        return type == null || painter.isStrange ? NONE : painter.known.cell(y, x);
    }

    public int wanted(int y, int x) {
        return type == null ? NONE : painter.wanted.cell(y, x);
    }

    // ---- the line discipline

    public int flags(int flags) {
        return discipline.changeFlags(flags & 255);
    }

    public int write() {
        int came = 0;
        for (int i = 0; i < taped; i++) {
            came += discipline.put(tape[i]);
        }
        taped = 0;
        return came;
    }

    public int read(int n) {
        if (n < 1 || n > MOST_OUT || discipline.ready.size() == 0) {
            return NONE;
        }
        written = discipline.takeReady(n, out);
        return written;
    }

    // ---- the terminal and the line

    public boolean key(int key, boolean down) {
        return keyboard.press(key, down);
    }

    public boolean spoil(int way) {
        switch (way) {
            case 0: return toTerminal.spoilByte();
            case 1: return toProgram.spoilByte();
            default: return false;
        }
    }

    public int ticks(int n) {
        if (n < 1 || n > MOST_TICKS) {
            return NONE;
        }
        int done = 0;
        while (done < n && time < MOST_TIME) {
            done++;
            time++;
            int arrived = toTerminal.arriving(time);
            if (arrived != NONE) {
                terminal.receive(arrived);
            }
            arrived = toProgram.arriving(time);
            if (arrived != NONE && arrived != SPOILED) {
                discipline.receive(arrived);
            }
            if (time % TICKS_BETWEEN_SCANS == 0) {
                keyboard.scan(time, terminal);
            }
            terminal.act();
            if (toProgram.isFree()) {
                toProgram.carry(terminal.nextToSend(), time + speed);
            }
            if (toTerminal.isFree()) {
                toTerminal.carry(discipline.nextToSend(), time + speed);
            }
        }
        return done;
    }

    public int screen(int y, int x) {
        Glass glass = terminal.glass;
        return glass.hasCell(y, x) ? glass.grid[y * glass.breadth + x] : NONE;
    }

    public int width(int y) {
        Glass glass = terminal.glass;
        return glass.hasCell(y, 0) ? glass.widths[y] : NONE;
    }

    public int state(int what) {
        if (what == 18) {
            return keyboard.repeating;
        }
        if (what >= 9 && what <= 16 && what != 10) {
            return terminal.tell(what);
        }
        return terminal.glass.tell(what);
    }

    public int count(int what) {
        switch (what) {
            case 0: return time;
            case 1: return reader.landed;
            case 2: return type == null ? 0 : painter.wanted.height;
            case 3: return type == null ? 0 : painter.wanted.breadth;
            case 4: return openWindows();
            case 11: return toTerminal.sent;
            case 12: return toProgram.sent;
            case 13: return taped;
            case 14: return type == null ? 0 : painter.known.attributes;
            case 15: return type == null || !painter.isPlaced ? NONE : painter.known.row;
            case 16: return type == null || !painter.isPlaced ? NONE : painter.known.column;
            default: return discipline.tell(what);
        }
    }

    public int stop(int y, int x) {
        Glass glass = terminal.glass;
        if (!glass.hasCell(y, x)) {
            return NONE;
        }
        return glass.stops[x] ? 1 : 0;
    }

    private Window openWindow(int window) {
        if (window < 0 || window >= MOST_WINDOWS || !windows[window].isOpen) {
            return null;
        }
        return windows[window];
    }

    private int openWindows() {
        int many = 0;
        for (int i = 0; i < MOST_WINDOWS; i++) {
            if (windows[i].isOpen) {
                many++;
            }
        }
        return many;
    }

    private void closeWindows() {
        for (int i = 0; i < MOST_WINDOWS; i++) {
            windows[i].isOpen = false;
        }
    }

    private static int nearest(int value, int least, int most) {
        if (value < least) {
            return least;
        }
        return value > most ? most : value;
    }

    private static boolean isBlank(int b) {
        return b == TAB || b == BLANK;
    }

    private static boolean isDigit(int b) {
        return b >= '0' && b <= '9';
    }

    private static boolean isLetter(int b) {
        return b >= 'a' && b <= 'z';
    }

    private static boolean isPrintable(int b) {
        return b >= 32 && b <= 126;
    }

    /** Moves a stretch of a row by so many places, below 0 to the left; the filling comes in. */
    private static void slide(int[] row, int from, int length, int by, int filling) {
        if (from < 0 || length <= 0 || length > row.length - from) {
            return;
        }
        if (by >= length || by <= -length) {
            Arrays.fill(row, from, from + length, filling);
        } else if (by >= 0) {
            System.arraycopy(row, from, row, from + by, length - by);
            Arrays.fill(row, from, from + by, filling);
        } else {
            System.arraycopy(row, from - by, row, from, length + by);
            Arrays.fill(row, from + length + by, from + length, filling);
        }
    }

    private static int abilityNamed(int[] bytes, int from, int length) {
        if (length < 1 || length > ABILITY_LETTERS || from < 0 || from > bytes.length - length) {
            return NONE;
        }
        for (int ability = 0; ability < ABILITIES; ability++) {
            if (isAbility(ability, bytes, from, length)) {
                return ability;
            }
        }
        return NONE;
    }

    private static boolean isAbility(int ability, int[] bytes, int from, int length) {
        int start = ability * ABILITY_LETTERS;
        for (int i = 0; i < ABILITY_LETTERS; i++) {
            char due = ABILITY_NAMES.charAt(start + i);
            boolean same = i < length ? due != ' ' && bytes[from + i] == due : due == ' ';
            if (!same) {
                return false;
            }
        }
        return true;
    }

    /** A bounded row of bytes that grows at its end and goes at either end. */
    private static final class Bytes {
        private final int[] ring;
        private int first;
        private int length;

        Bytes(int most) {
            ring = new int[Math.max(1, most)];
        }

        int size() {
            return length;
        }

        int room() {
            return ring.length - length;
        }

        void clear() {
            length = 0;
        }

        boolean add(int b) {
            if (length >= ring.length) {
                return false;
            }
            ring[(first + length) % ring.length] = b;
            length++;
            return true;
        }

        boolean addWhole(int[] bytes, int many) {
            if (many > ring.length - length || many > bytes.length) {
                return false;
            }
            for (int i = 0; i < many; i++) {
                ring[(first + length + i) % ring.length] = bytes[i];
            }
            length += many;
            return true;
        }

        int get(int i) {
            return i < 0 || i >= length ? NONE : ring[(first + i) % ring.length];
        }

        int takeFirst() {
            int b = get(0);
            if (length > 0) {
                first = (first + 1) % ring.length;
                length--;
            }
            return b;
        }

        int takeLast() {
            int b = get(length - 1);
            if (length > 0) {
                length--;
            }
            return b;
        }
    }

    /** One described type: its NAMES and what it has. */
    private static final class Entry {
        private static final int MOST_NAMES = 4;
        private static final int MOST_NAME = 12;

        private final int[] names = new int[MOST_NAMES * MOST_NAME];
        private final int[] nameLengths = new int[MOST_NAMES];
        private int nameCount;
        private final boolean[] isThere = new boolean[ABILITIES];
        private final int[] numbers = new int[FIRST_STRING];
        private final int[] texts = new int[STRINGS * MOST_STRING];
        private final int[] textLengths = new int[STRINGS];

        void begin() {
            nameCount = 0;
            for (int i = 0; i < ABILITIES; i++) {
                isThere[i] = false;
            }
        }

        void addName(int[] bytes, int from, int length) {
            if (nameCount >= MOST_NAMES || length > MOST_NAME || from > bytes.length - length) {
                return;
            }
            System.arraycopy(bytes, from, names, nameCount * MOST_NAME, length);
            nameLengths[nameCount] = length;
            nameCount++;
        }

        boolean isNamed(int[] bytes, int from, int length) {
            for (int i = 0; i < nameCount; i++) {
                if (nameLengths[i] == length && sameName(i, bytes, from)) {
                    return true;
                }
            }
            return false;
        }

        private boolean sameName(int name, int[] bytes, int from) {
            int start = name * MOST_NAME;
            for (int i = 0; i < nameLengths[name]; i++) {
                if (names[start + i] != bytes[from + i]) {
                    return false;
                }
            }
            return true;
        }

        boolean has(int ability) {
            return isThere[ability];
        }

        int number(int ability) {
            return numbers[ability];
        }

        int lengthOf(int ability) {
            return textLengths[ability - FIRST_STRING];
        }

        static int startOf(int ability) {
            return (ability - FIRST_STRING) * MOST_STRING;
        }

        void tellFlag(int ability) {
            isThere[ability] = true;
        }

        void tellNumber(int ability, int value) {
            isThere[ability] = true;
            numbers[ability] = value;
        }

        void tellString(int ability, int[] bytes, int from, int length) {
            isThere[ability] = true;
            textLengths[ability - FIRST_STRING] = length;
            System.arraycopy(bytes, from, texts, startOf(ability), length);
        }

        /** Takes what the other has, but for what this one tells and what it has already. */
        void takeFrom(Entry other, boolean[] isTold) {
            for (int i = 0; i < ABILITIES; i++) {
                if (isTold[i] || isThere[i] || !other.isThere[i]) {
                    continue;
                }
                if (i < FIRST_NUMBER) {
                    tellFlag(i);
                } else if (i < FIRST_STRING) {
                    tellNumber(i, other.numbers[i]);
                } else {
                    tellString(i, other.texts, startOf(i), other.lengthOf(i));
                }
            }
        }

        boolean isUsable() {
            return has(COLS) && numbers[COLS] >= 4 && numbers[COLS] <= MOST_COLUMNS
                && has(LINES) && numbers[LINES] >= 2 && numbers[LINES] <= MOST_LINES
                && has(CLEAR) && has(CUP);
        }
    }

    /** Keeps the ENTRIES, and reads TEXTS; each reading method is false once a fault is found. */
    private static final class Reader {
        private static final int MOST_ENTRIES = 12;
        private static final int MOST_USES = 4;
        private static final int MOST_DIGITS = 5;
        private static final int MOST_NUMBER = 32767;
        private static final int TEXT_END = -1;

        private static final int WRONG_BYTE = 1;
        private static final int TOO_LONG = 2;
        private static final int NAME_TAKEN = 3;
        private static final int NO_ABILITY = 4;
        private static final int OTHER_SORT = 5;
        private static final int TOLD_TWICE = 6;
        private static final int TOO_MANY_ENTRIES = 7;
        private static final int WRONG_PERCENT = 8;
        private static final int NO_NAME = 9;
        private static final int NO_ESCAPE = 10;
        private static final int TOO_MANY = 11;

        private final Entry[] entries = new Entry[MOST_ENTRIES];
        private int landed;
        private int faultNumber;
        private int faultPlace = NONE;

        private int[] text = new int[0];
        private int length;
        private int place;
        /** ENTRIES that are through, those of this text behind those of the house. */
        private int through;
        private Entry entry;
        private final boolean[] isTold = new boolean[ABILITIES];
        private final int[] used = new int[MOST_USES];
        private int useCount;
        private final int[] made = new int[MOST_STRING];
        private int madeLength;

        Reader() {
            for (int i = 0; i < MOST_ENTRIES; i++) {
                entries[i] = new Entry();
            }
        }

        void forget() {
            landed = 0;
        }

        Entry entryNamed(int[] bytes, int many) {
            int i = indexNamed(bytes, 0, many, landed);
            return i == NONE ? null : entries[i];
        }

        private int indexNamed(int[] bytes, int from, int many, int among) {
            for (int i = 0; i < among && i < MOST_ENTRIES; i++) {
                if (entries[i].isNamed(bytes, from, many)) {
                    return i;
                }
            }
            return NONE;
        }

        /** New ENTRIES are made behind the landed ones, so that a fault has nothing to undo. */
        int readText(int[] bytes, int many) {
            text = bytes;
            length = many;
            place = 0;
            through = landed;
            entry = null;
            faultNumber = 0;
            faultPlace = NONE;
            boolean isRight = true;
            for (int line = 0; line < many && isRight && place < length; line++) {
                int b = text[place];
                if (b == '#') {
                    isRight = passComment();
                } else if (isBlank(b)) {
                    isRight = readFields();
                } else {
                    isRight = b == LINE_FEED ? passLineEnd() : readNames();
                }
            }
            if (!isRight) {
                return NONE;
            }
            finishEntry();
            landed = through;
            return landed;
        }

        private boolean passComment() {
            while (place < length && text[place] != LINE_FEED) {
                if (!isText(text[place])) {
                    return failed(WRONG_BYTE, place);
                }
                place++;
            }
            return passLineEnd();
        }

        private boolean readNames() {
            if (!isNameByte(byteAt(place))) {
                return failed(WRONG_BYTE, place);
            }
            if (through + (entry == null ? 0 : 1) >= MOST_ENTRIES) {
                return failed(TOO_MANY_ENTRIES, place);
            }
            finishEntry();
            beginEntry();
            for (int n = 0; n <= Entry.MOST_NAMES; n++) {
                if (!readName(n)) {
                    return false;
                }
                int b = byteAt(place);
                if (b != ',' && b != '|') {
                    return failed(WRONG_BYTE, place);
                }
                place++;
                if (b == ',') {
                    passBlanks();
                    return passLineEnd();
                }
            }
            return failed(TOO_MANY, place);
        }

        private void beginEntry() {
            entry = entries[through];
            entry.begin();
            useCount = 0;
            for (int i = 0; i < ABILITIES; i++) {
                isTold[i] = false;
            }
        }

        private void finishEntry() {
            if (entry == null) {
                return;
            }
            for (int i = 0; i < useCount; i++) {
                entry.takeFrom(entries[used[i]], isTold);
            }
            entry = null;
            through++;
        }

        private boolean readName(int n) {
            int start = place;
            if (!passName()) {
                return false;
            }
            int many = place - start;
            if (many > Entry.MOST_NAME) {
                return failed(TOO_LONG, start);
            }
            if (indexNamed(text, start, many, through + 1) != NONE) {
                return failed(NAME_TAKEN, start);
            }
            if (n >= Entry.MOST_NAMES) {
                return failed(TOO_MANY, start);
            }
            entry.addName(text, start, many);
            return true;
        }

        private boolean passName() {
            int start = place;
            while (place < length && isNameByte(text[place])) {
                place++;
            }
            if (place == start || !isText(byteAt(place))) {
                return failed(WRONG_BYTE, place);
            }
            return true;
        }

        private boolean readFields() {
            passBlanks();
            for (int n = 0; n < length && place < length && text[place] != LINE_FEED; n++) {
                if (entry == null) {
                    return failed(WRONG_BYTE, place);
                }
                if (!readField()) {
                    return false;
                }
                passBlanks();
            }
            return passLineEnd();
        }

        private boolean readField() {
            int start = place;
            if (!passAbility()) {
                return false;
            }
            int behind = byteAt(place);
            int many = place - start;
            if (many > ABILITY_LETTERS) {
                return failed(TOO_LONG, start);
            }
            if (behind == '=' && isUse(start, many)) {
                place++;
                return readUse() && passComma();
            }
            int ability = abilityNamed(text, start, many);
            if (ability == NONE) {
                return failed(NO_ABILITY, start);
            }
            if (isTold[ability]) {
                return failed(TOLD_TWICE, start);
            }
            if (behind != '@' && behind != '#' && behind != '=' && behind != ',') {
                return failed(WRONG_BYTE, place);
            }
            if (behind != '@' && behind != signOf(ability)) {
                return failed(OTHER_SORT, place);
            }
            isTold[ability] = true;
            switch (behind) {
                case '#': place++; return readNumber(ability) && passComma();
                case '=': place++; return readString(ability) && passComma();
                case '@': place++; return passComma();
                default: entry.tellFlag(ability); return passComma();
            }
        }

        private boolean passAbility() {
            if (!isLetter(byteAt(place))) {
                return failed(WRONG_BYTE, place);
            }
            while (place < length && (isLetter(text[place]) || isDigit(text[place]))) {
                place++;
            }
            return isText(byteAt(place)) || failed(WRONG_BYTE, place);
        }

        private boolean isUse(int start, int many) {
            return many == 3 && text[start] == 'u' && text[start + 1] == 's' && text[start + 2] == 'e';
        }

        private boolean readUse() {
            int start = place;
            if (!passName()) {
                return false;
            }
            int many = place - start;
            if (many > Entry.MOST_NAME) {
                return failed(TOO_LONG, start);
            }
            if (useCount >= MOST_USES) {
                return failed(TOO_MANY, start);
            }
            int named = indexNamed(text, start, many, through);
            if (named == NONE) {
                return failed(NO_NAME, start);
            }
            used[useCount] = named;
            useCount++;
            return true;
        }

        private boolean readNumber(int ability) {
            int start = place;
            int value = 0;
            while (place < length && isDigit(text[place])) {
                value = Math.min(MOST_NUMBER + 1, value * 10 + text[place] - '0');
                place++;
            }
            if (place == start || !isText(byteAt(place))) {
                return failed(WRONG_BYTE, place);
            }
            if (place - start > MOST_DIGITS || value > MOST_NUMBER) {
                return failed(TOO_LONG, start);
            }
            entry.tellNumber(ability, value);
            return true;
        }

        private boolean readString(int ability) {
            int start = place;
            madeLength = 0;
            for (int n = 0; n < length && place < length; n++) {
                int b = text[place];
                if (b == ',' || b == LINE_FEED) {
                    break;
                }
                boolean isRight = true;
                if (!isText(b)) {
                    isRight = failed(WRONG_BYTE, place);
                } else if (b == '\\') {
                    isRight = readBackslash();
                } else if (b == '^') {
                    isRight = readCaret();
                } else {
                    readPlain(b);
                }
                if (!isRight) {
                    return false;
                }
            }
            // its LINE's end is a fault there, ahead of the STRING's own
            if (byteAt(place) != ',') {
                return failed(WRONG_BYTE, place);
            }
            if (madeLength > MOST_STRING) {
                return failed(TOO_LONG, start);
            }
            if (!Machine.isWellFormed(made, madeLength)) {
                return failed(WRONG_PERCENT, start);
            }
            entry.tellString(ability, made, 0, madeLength);
            return true;
        }

        private void readPlain(int b) {
            int delay = b == '$' ? delayLength() : 0;
            if (delay == 0) {
                make(b);
            }
            place += Math.max(1, delay);
        }

        private boolean readBackslash() {
            int b = byteAt(place + 1);
            if (!isText(b)) {
                return failed(WRONG_BYTE, place + 1);
            }
            if (b >= '0' && b <= '7') {
                return readOctal();
            }
            int meant = escaped(b);
            if (meant == NONE) {
                return failed(NO_ESCAPE, place);
            }
            make(meant);
            place += 2;
            return true;
        }

        private boolean readOctal() {
            int value = 0;
            for (int i = 1; i <= 3; i++) {
                int b = byteAt(place + i);
                if (!isText(b)) {
                    return failed(WRONG_BYTE, place + i);
                }
                if (b < '0' || b > '7') {
                    return failed(NO_ESCAPE, place);
                }
                value = value * 8 + b - '0';
            }
            if (value < 1 || value > 255) {
                return failed(NO_ESCAPE, place);
            }
            make(value);
            place += 4;
            return true;
        }

        private boolean readCaret() {
            int b = byteAt(place + 1);
            if (!isText(b)) {
                return failed(WRONG_BYTE, place + 1);
            }
            if (b != '?' && (b < 64 || b > 95)) {
                return failed(NO_ESCAPE, place);
            }
            make(b == '?' ? DELETE : b - 64);
            place += 2;
            return true;
        }

        /** How many bytes the delay at this place has; 0 if it is none. */
        private int delayLength() {
            if (byteAt(place + 1) != '<') {
                return 0;
            }
            int digits = 0;
            while (digits < 3 && isDigit(byteAt(place + 2 + digits))) {
                digits++;
            }
            return digits > 0 && byteAt(place + 2 + digits) == '>' ? digits + 3 : 0;
        }

        private void make(int b) {
            if (madeLength < MOST_STRING) {
                made[madeLength] = b;
            }
            madeLength++;
        }

        private void passBlanks() {
            while (place < length && isBlank(text[place])) {
                place++;
            }
        }

        private boolean passLineEnd() {
            int b = byteAt(place);
            if (b != TEXT_END && b != LINE_FEED) {
                return failed(WRONG_BYTE, place);
            }
            place++;
            return true;
        }

        private boolean passComma() {
            if (byteAt(place) != ',') {
                return failed(WRONG_BYTE, place);
            }
            place++;
            return true;
        }

        private int byteAt(int i) {
            return i < 0 || i >= length ? TEXT_END : text[i];
        }

        private boolean failed(int number, int where) {
            faultNumber = number;
            faultPlace = where;
            return false;
        }

        private static boolean isText(int b) {
            return b == TEXT_END || b == LINE_FEED || b == TAB || b >= 32 && b <= 126;
        }

        private static boolean isNameByte(int b) {
            return isLetter(b) || isDigit(b) || b == '-' || b == '+';
        }

        private static int signOf(int ability) {
            if (ability < FIRST_NUMBER) {
                return ',';
            }
            return ability < FIRST_STRING ? '#' : '=';
        }

        private static int escaped(int b) {
            switch (b) {
                case 'E': return ESCAPE_BYTE;
                case 'n': return LINE_FEED;
                case 'r': return RETURN;
                case 't': return TAB;
                case 'b': return BACKSPACE;
                case 'f': return 12;
                case 's': return BLANK;
                case '\\':
                case '^':
                case ',':
                case ':': return b;
                default: return NONE;
            }
        }
    }

    /** Puts STRINGS together; a STRING that it gets is always well formed. */
    private static final class Machine {
        private static final int MOST_MADE = 60;
        private static final int MOST_STACK = 8;
        private static final int MOST_OPEN = 4;
        private static final int BEHIND_IF = 1;
        private static final int BEHIND_THEN = 2;
        private static final int BEHIND_ELSE = 3;

        private final int[] stack = new int[MOST_STACK];
        private int height;
        private final int[] parameters = new int[4];
        private final int[] made = new int[MOST_MADE];
        private int madeLength;

        /** How many bytes the token at i has; 0 if it is a % that is not as told. */
        private static int tokenLength(int[] text, int i, int end) {
            if (i >= end || text[i] != '%') {
                return 1;
            }
            int left = end - i;
            if (left < 2) {
                return 0;
            }
            int third = left > 2 ? text[i + 2] : NONE;
            int fourth = left > 3 ? text[i + 3] : NONE;
            switch (text[i + 1]) {
                case 'p': return third >= '1' && third <= '4' ? 3 : 0;
                case '2':
                case '3': return third == 'd' ? 3 : 0;
                case '0': return (third == '2' || third == '3') && fourth == 'd' ? 4 : 0;
                case '\'': return fourth == '\'' ? 4 : 0;
                case '{': break;
                case '%': case 'd': case 'c': case 'i':
                case '+': case '-': case '*': case '/': case 'm':
                case '&': case '|': case '^': case '=': case '<': case '>':
                case 'A': case 'O': case '!': case '~':
                case '?': case 't': case 'e': case ';': return 2;
                default: return 0;
            }
            int value = 0;
            int k = i + 2;
            while (k < end && k < i + 2 + Reader.MOST_DIGITS && text[k] >= '0' && text[k] <= '9') {
                value = value * 10 + text[k] - '0';
                k++;
            }
            boolean isNumber = k > i + 2 && value <= Reader.MOST_NUMBER && k < end && text[k] == '}';
            return isNumber ? k + 1 - i : 0;
        }

        private static int numberAt(int[] text, int i, int end) {
            int value = 0;
            for (int k = 0; k < Reader.MOST_DIGITS && i + k < end && isDigit(text[i + k]); k++) {
                value = value * 10 + text[i + k] - '0';
            }
            return value;
        }

        /** The open %? are kept in one int, two bits each, the innermost lowest. */
        static boolean isWellFormed(int[] text, int length) {
            int open = 0;
            int depth = 0;
            int i = 0;
            while (i < length) {
                int size = tokenLength(text, i, length);
                if (size == 0) {
                    return false;
                }
                int kind = size == 2 ? text[i + 1] : NONE;
                int behind = open & 3;
                if (kind == '?') {
                    open = open << 2 | BEHIND_IF;
                    depth++;
                } else if (kind == 't') {
                    open = behind == BEHIND_IF || behind == BEHIND_ELSE ? open - behind + BEHIND_THEN : NONE;
                } else if (kind == 'e') {
                    open = behind == BEHIND_THEN ? open - behind + BEHIND_ELSE : NONE;
                } else if (kind == ';') {
                    open = behind == BEHIND_THEN || behind == BEHIND_ELSE ? open >> 2 : NONE;
                    depth--;
                }
                if (open == NONE || depth > MOST_OPEN) {
                    return false;
                }
                i += size;
            }
            return depth == 0;
        }

        void setParameters(int a, int b, int c, int d) {
            parameters[0] = a;
            parameters[1] = b;
            parameters[2] = c;
            parameters[3] = d;
        }

        int putTogether(Entry type, int ability) {
            int[] text = type.texts;
            int i = Entry.startOf(ability);
            int end = i + type.lengthOf(ability);
            height = 0;
            madeLength = 0;
            for (int turn = 0; turn < MOST_STRING && i < end; turn++) {
                int size = tokenLength(text, i, end);
                int behind = i + Math.max(1, size);
                if (size < 2) {
                    make(text[i]);
                } else {
                    int kind = text[i + 1];
                    switch (kind) {
                        case 't':
                            behind = pop() == 0 ? skip(text, behind, end, true) : behind;
                            break;
                        case 'e': behind = skip(text, behind, end, false); break;
                        case 'd': makeDecimal(pop(), 0, BLANK); break;
                        case '2':
                        case '3': makeDecimal(pop(), kind - '0', BLANK); break;
                        case '0': makeDecimal(pop(), text[i + 2] - '0', '0'); break;
                        case '{': push(numberAt(text, i + 2, end)); break;
                        case 'p': push(parameters[(text[i + 2] - '1') & 3]); break;
                        case '\'': push(text[i + 2]); break;
                        default: operate(kind); break;
                    }
                }
                i = behind;
            }
            return madeLength;
        }

        /** The place behind the %; that belongs here, or behind the %e if that is looked for too. */
        private static int skip(int[] text, int from, int end, boolean stopsAtElse) {
            int depth = 0;
            int i = from;
            while (i < end) {
                int size = Math.max(1, tokenLength(text, i, end));
                int kind = size == 2 ? text[i + 1] : NONE;
                i += size;
                if (depth == 0 && (kind == ';' || kind == 'e' && stopsAtElse)) {
                    return i;
                }
                if (kind == '?') {
                    depth++;
                } else if (kind == ';') {
                    depth--;
                }
            }
            return end;
        }

        private void operate(int kind) {
            switch (kind) {
                case '%': make('%'); break;
                case 'c': make(pop() & 255); break;
                case 'i': parameters[0]++; parameters[1]++; break;
                case '!': push(pop() == 0 ? 1 : 0); break;
                case '~': push(~pop()); break;
                case '?':
                case ';': break;
                default:
                    int y = pop();
                    int x = pop();
                    push(combined(kind, x, y));
                    break;
            }
        }

        private static int combined(int kind, int x, int y) {
            switch (kind) {
                case '+': return x + y;
                case '-': return x - y;
                case '*': return x * y;
                case '/': return y == 0 ? 0 : x / y;
                case 'm': return y == 0 ? 0 : x - x / y * y;
                case '&': return x & y;
                case '|': return x | y;
                case '^': return x ^ y;
                case '=': return x == y ? 1 : 0;
                case '<': return x < y ? 1 : 0;
                case '>': return x > y ? 1 : 0;
                case 'A': return x != 0 && y != 0 ? 1 : 0;
                case 'O': return x != 0 || y != 0 ? 1 : 0;
                default: return 0;
            }
        }

        private void push(int value) {
            if (height < MOST_STACK) {
                stack[height] = value;
                height++;
            }
        }

        private int pop() {
            if (height == 0) {
                return 0;
            }
            height--;
            return stack[height];
        }

        private void makeDecimal(int value, int least, int filling) {
            long size = value < 0 ? -(long) value : value;
            long unit = 1;
            int bytes = value < 0 ? 2 : 1;
            while (bytes < 12 && size / 10 >= unit) {
                unit *= 10;
                bytes++;
            }
            if (value < 0 && filling != BLANK) {
                make('-');
            }
            for (int i = bytes; i < least; i++) {
                make(filling);
            }
            if (value < 0 && filling == BLANK) {
                make('-');
            }
            while (unit > 0) {
                make('0' + (int) (size / unit % 10));
                unit /= 10;
            }
        }

        private void make(int b) {
            if (madeLength < MOST_MADE) {
                made[madeLength] = b;
                madeLength++;
            }
        }
    }

    /** A screen of CELLS with a CURSOR: a WINDOW, and likewise what is WANTED and what is KNOWN. */
    private static final class Window {
        private static final int TAB_STEP = 8;

        private final int[] grid = new int[MOST_LINES * MOST_COLUMNS];
        private boolean isOpen;
        private int top;
        private int left;
        private int height;
        private int breadth;
        private int row;
        private int column;
        private int attributes;
        private boolean isScrolling;

        void begin(int y, int x, int h, int w) {
            isOpen = true;
            top = y;
            left = x;
            height = nearest(h, 1, MOST_LINES);
            breadth = nearest(w, 1, MOST_COLUMNS);
            row = 0;
            column = 0;
            attributes = 0;
            isScrolling = false;
            Arrays.fill(grid, 0, height * breadth, BLANK);
        }

        void become(Window other) {
            begin(other.top, other.left, other.height, other.breadth);
            row = other.row;
            column = other.column;
            attributes = other.attributes;
            System.arraycopy(other.grid, 0, grid, 0, height * breadth);
        }

        boolean wouldHold(int y, int x, int h, int w) {
            return h >= 1 && w >= 1 && h <= height && w <= breadth
                && y >= 0 && x >= 0 && y <= height - h && x <= breadth - w;
        }

        boolean hasCell(int y, int x) {
            return y >= 0 && y < height && x >= 0 && x < breadth;
        }

        int cell(int y, int x) {
            return hasCell(y, x) ? grid[y * breadth + x] : NONE;
        }

        /** Says a byte but 10 and 7, and answers whether what is behind it may be said. */
        boolean sayByte(int b) {
            boolean goesOn = true;
            if (isPrintable(b)) {
                goesOn = saySign(b);
            } else if (b == TAB) {
                int many = Math.min(TAB_STEP - column % TAB_STEP, breadth - column);
                for (int i = 0; i < many && goesOn; i++) {
                    goesOn = saySign(BLANK);
                }
            } else if (b == RETURN) {
                column = 0;
            } else if (b == BACKSPACE && column > 0) {
                column--;
            }
            return goesOn;
        }

        private boolean saySign(int b) {
            grid[row * breadth + column] = b + 256 * attributes;
            if (column < breadth - 1) {
                column++;
                return true;
            }
            return goToNextRow();
        }

        private boolean goToNextRow() {
            if (row < height - 1) {
                row++;
            } else if (isScrolling) {
                slideRows(0, -1);
            } else {
                return false;
            }
            column = 0;
            return true;
        }

        /** Says a 10, and answers whether it could be said. */
        boolean breakLine() {
            if (row >= height - 1 && !isScrolling) {
                return false;
            }
            Arrays.fill(grid, row * breadth + column, (row + 1) * breadth, BLANK);
            return goToNextRow();
        }

        boolean blankOut(int what) {
            int here = row * breadth + column;
            switch (what) {
                case 0:
                    Arrays.fill(grid, 0, height * breadth, BLANK);
                    row = 0;
                    column = 0;
                    return true;
                case 1:
                    Arrays.fill(grid, here, height * breadth, BLANK);
                    return true;
                case 2:
                    Arrays.fill(grid, here, (row + 1) * breadth, BLANK);
                    return true;
                default:
                    return false;
            }
        }

        /** The rows from this one on go so many down, below 0 up. */
        void slideRows(int from, int by) {
            int places = nearest(by, -height, height);
            slide(grid, from * breadth, (height - from) * breadth, places * breadth, BLANK);
        }

        void drawEdge() {
            for (int y = 0; y < height; y++) {
                for (int x = 0; x < breadth; x++) {
                    boolean isEndRow = y == 0 || y == height - 1;
                    boolean isEndColumn = x == 0 || x == breadth - 1;
                    if (isEndRow || isEndColumn) {
                        int sign = !isEndColumn ? '-' : isEndRow ? '+' : '|';
                        grid[y * breadth + x] = sign + 256 * attributes;
                    }
                }
            }
        }

        /** Shows itself on a screen that holds it wholly: how many CELLS have changed there. */
        int copyTo(Window screen) {
            int changed = 0;
            for (int y = 0; y < height; y++) {
                for (int x = 0; x < breadth; x++) {
                    int there = (top + y) * screen.breadth + left + x;
                    int cell = grid[y * breadth + x];
                    if (screen.grid[there] != cell) {
                        screen.grid[there] = cell;
                        changed++;
                    }
                }
            }
            screen.row = top + row;
            screen.column = left + column;
            return changed;
        }

        int tell(int what) {
            switch (what) {
                case 0: return top;
                case 1: return left;
                case 2: return height;
                case 3: return breadth;
                case 4: return row;
                case 5: return column;
                case 6: return attributes;
                case 7: return isScrolling ? 1 : 0;
                default: return NONE;
            }
        }
    }

    /** Keeps what is WANTED and what is KNOWN, and makes the bytes that lead from one to the other. */
    private static final class Painter {
        private static final int MOST_BYTES = 6000;
        /** The bytes of a way that is none: more than any way that is one can have. */
        private static final int FAR = 1000000;
        private static final int BY_CUP = 1;
        private static final int BY_HPA = 2;
        private static final int BY_VPA = 3;
        private static final int FROM_HERE = 4;
        private static final int FROM_FIRST_COLUMN = 5;
        private static final int FROM_HOME = 6;
        private static final int STEP_SIZE = 4;
        private static final int MOST_STEPS = 5;

        private final Window wanted = new Window();
        private final Window known = new Window();
        private final Window before = new Window();
        /** The WANTED CELLS with OFFERED ATTRIBUTES alone. */
        private final int[] aim = new int[MOST_LINES * MOST_COLUMNS];
        private final int[] bytes = new int[MOST_BYTES];
        private int byteCount;
        private Entry type;
        private Machine machine;
        private int lines;
        private int columns;
        private int offered;
        /** The columns between two STOPS; 0 without ht or it. */
        private int tabStep;
        private boolean isBellWanted;
        private boolean isStrange;
        private boolean isPlaced;
        /** The bytes of each STRING put together with 0. */
        private final int[] plainLengths = new int[ABILITIES];
        /** The bytes of cuu, cud, cub, cuf, hpa and vpa with each number. */
        private final int[][] lengths = new int[VPA - CUU + 1][MOST_COLUMNS];
        /** A MOTION's steps: an ABILITY (NONE: KNOWN bytes), how often, and two numbers each. */
        private final int[] steps = new int[MOST_STEPS * STEP_SIZE];
        private int stepCount;

        void begin(Entry used, Machine itsMachine) {
            type = used;
            machine = itsMachine;
            lines = nearest(type.number(LINES), 1, MOST_LINES);
            columns = nearest(type.number(COLS), 1, MOST_COLUMNS);
            wanted.begin(0, 0, lines, columns);
            known.begin(0, 0, lines, columns);
            isBellWanted = false;
            isStrange = true;
            isPlaced = false;
            tabStep = type.has(HT) && type.has(IT) ? type.number(IT) : 0;
            offered = 0;
            for (int i = 0; i < 4; i++) {
                if (type.has(BOLD + i) && type.has(SGR0)) {
                    offered |= 1 << i;
                }
            }
            measureStrings();
        }

        private void measureStrings() {
            for (int i = FIRST_STRING; i < ABILITIES; i++) {
                plainLengths[i] = measured(i, 0);
            }
            for (int i = CUU; i <= VPA; i++) {
                for (int n = 0; n < MOST_COLUMNS; n++) {
                    lengths[i - CUU][n] = measured(i, n);
                }
            }
        }

        private int measured(int ability, int n) {
            if (!type.has(ability)) {
                return FAR;
            }
            machine.setParameters(n, 0, 0, 0);
            return machine.putTogether(type, ability);
        }

        /** TO UPDATE: how many bytes; with more than there may be all is as it was before. */
        int paint(int room) {
            boolean wasStrange = isStrange;
            boolean wasPlaced = isPlaced;
            before.become(known);
            byteCount = 0;
            takeAim();
            if (isBellWanted) {
                send(BEL, 1, 0, 0);
            }
            if (isStrange) {
                startAnew();
            }
            rollUp();
            for (int y = 0; y < lines; y++) {
                paintRow(y);
            }
            dressAs(0);
            moveTo(wanted.row, wanted.column);
            if (byteCount > MOST_BYTES || byteCount > room) {
                known.become(before);
                isStrange = wasStrange;
                isPlaced = wasPlaced;
                return NONE;
            }
            isBellWanted = false;
            return byteCount;
        }

        private void takeAim() {
            for (int i = 0; i < lines * columns; i++) {
                int cell = wanted.grid[i];
                aim[i] = (cell & 255) + 256 * (cell >> 8 & offered);
            }
        }

        private void startAnew() {
            send(IS, 1, 0, 0);
            send(SGR0, 1, 0, 0);
            send(CSR, 1, 0, lines - 1);
            send(CLEAR, 1, 0, 0);
            known.begin(0, 0, lines, columns);
            isPlaced = true;
            isStrange = false;
        }

        private void rollUp() {
            if (!type.has(IND)) {
                return;
            }
            int best = 0;
            int fewest = lines + 1;
            for (int k = 0; k < lines; k++) {
                int unlike = rowsUnlike(k);
                if (unlike < fewest) {
                    fewest = unlike;
                    best = k;
                }
            }
            if (best > 0) {
                moveTo(lines - 1, 0);
                send(IND, best, 0, 0);
                known.slideRows(0, -best);
            }
        }

        private int rowsUnlike(int rolled) {
            int unlike = 0;
            for (int y = 0; y < lines; y++) {
                if (isRowUnlike(y, y + rolled)) {
                    unlike++;
                }
            }
            return unlike;
        }

        private boolean isRowUnlike(int y, int knownRow) {
            int compared = paintable(y);
            for (int x = 0; x < compared; x++) {
                int there = knownRow < lines ? known.grid[knownRow * columns + x] : BLANK;
                if (aim[y * columns + x] != there) {
                    return true;
                }
            }
            return false;
        }

        /** How many columns of a row may be written: the last CELL of all would roll the screen. */
        private int paintable(int y) {
            boolean wouldRoll = y == lines - 1 && type.has(AM) && !type.has(XENL);
            return wouldRoll ? columns - 1 : columns;
        }

        private void paintRow(int y) {
            int start = y * columns;
            int first = NONE;
            int last = NONE;
            int compared = paintable(y);
            for (int x = 0; x < compared; x++) {
                if (aim[start + x] != known.grid[start + x]) {
                    first = first == NONE ? x : first;
                    last = x;
                }
            }
            if (first == NONE) {
                return;
            }
            int blankFrom = Math.max(first, behindLastSign(start));
            boolean isCleared = type.has(EL) && last + 1 - blankFrom > plainLengths[EL];
            int behind = isCleared ? blankFrom : last + 1;
            for (int x = first; x < behind; x++) {
                if (aim[start + x] != known.grid[start + x]) {
                    moveTo(y, x);
                    dressAs(aim[start + x] >> 8);
                    paintCell(start + x);
                }
            }
            if (isCleared) {
                moveTo(y, blankFrom);
                dressAs(0);
                send(EL, 1, 0, 0);
                Arrays.fill(known.grid, start + blankFrom, start + columns, BLANK);
            }
        }

        private int behindLastSign(int start) {
            for (int x = columns; x > 0; x--) {
                if (aim[start + x - 1] != BLANK) {
                    return x;
                }
            }
            return 0;
        }

        private void paintCell(int i) {
            addByte(aim[i] & 255);
            known.grid[i] = aim[i];
            if (known.column < columns - 1) {
                known.column++;
            } else if (type.has(AM)) {
                if (type.has(XENL) || known.row >= lines - 1) {
                    isPlaced = false;
                } else {
                    known.row++;
                    known.column = 0;
                }
            }
        }

        private void dressAs(int attributes) {
            if ((known.attributes & ~attributes) != 0) {
                send(SGR0, 1, 0, 0);
                known.attributes = 0;
            }
            for (int i = 0; i < 4; i++) {
                int one = 1 << i;
                if ((attributes & one) != 0 && (known.attributes & one) == 0) {
                    send(BOLD + i, 1, 0, 0);
                    known.attributes |= one;
                }
            }
        }

        private void moveTo(int v, int u) {
            if (isPlaced && known.row == v && known.column == u) {
                return;
            }
            if (known.attributes != 0 && !type.has(MSGR)) {
                send(SGR0, 1, 0, 0);
                known.attributes = 0;
            }
            planWay(cheapestWay(v, u), v, u);
            for (int i = 0; i < stepCount; i++) {
                int step = i * STEP_SIZE;
                if (steps[step] == NONE) {
                    copyKnown(v, steps[step + 2], steps[step + 3]);
                } else {
                    send(steps[step], steps[step + 1], steps[step + 2], steps[step + 3]);
                }
            }
            known.row = v;
            known.column = u;
            isPlaced = true;
        }

        private int cheapestWay(int v, int u) {
            machine.setParameters(v, u, 0, 0);
            int best = BY_CUP;
            int fewest = machine.putTogether(type, CUP);
            if (isPlaced && known.row == v && lengths[HPA - CUU][u] < fewest) {
                best = BY_HPA;
                fewest = lengths[HPA - CUU][u];
            }
            if (isPlaced && known.column == u && lengths[VPA - CUU][v] < fewest) {
                best = BY_VPA;
                fewest = lengths[VPA - CUU][v];
            }
            if (isPlaced) {
                int down = downLength(known.row, v);
                int fromHere = down + acrossLength(known.column, u, v);
                if (fromHere < fewest) {
                    best = FROM_HERE;
                    fewest = fromHere;
                }
                int fromFirst = plainLengths[CR] + down + acrossLength(0, u, v);
                if (fromFirst < fewest) {
                    best = FROM_FIRST_COLUMN;
                    fewest = fromFirst;
                }
            }
            int fromHome = plainLengths[HOME] + downLength(0, v) + acrossLength(0, u, v);
            return fromHome < fewest ? FROM_HOME : best;
        }

        private int downLength(int from, int to) {
            return to >= from ? pairLength(CUD1, CUD, to - from) : pairLength(CUU1, CUU, from - to);
        }

        private int pairLength(int single, int many, int n) {
            if (n == 0) {
                return 0;
            }
            int bySingle = n * plainLengths[single];
            int byMany = lengths[many - CUU][n];
            return bySingle <= byMany ? bySingle : byMany;
        }

        private int acrossLength(int from, int to, int v) {
            if (to <= from) {
                return pairLength(CUB1, CUB, from - to);
            }
            int direct = pairLength(CUF1, CUF, to - from);
            return Math.min(direct, Math.min(tabsLength(from, to), copyLength(v, from, to)));
        }

        /** The last STOP that does not go beyond a column; NONE if tabs do not help from here. */
        private int lastStop(int from, int to) {
            int last = tabStep > 0 ? to / tabStep * tabStep : NONE;
            return last > from ? last : NONE;
        }

        private int tabsBetween(int from, int stop) {
            return tabStep > 0 ? stop / tabStep - from / tabStep : 0;
        }

        private int tabsLength(int from, int to) {
            int stop = lastStop(from, to);
            if (stop == NONE) {
                return FAR;
            }
            return tabsBetween(from, stop) * plainLengths[HT] + pairLength(CUF1, CUF, to - stop);
        }

        private int copyLength(int v, int from, int to) {
            for (int x = from; x < to; x++) {
                if (known.grid[v * columns + x] >> 8 != known.attributes) {
                    return FAR;
                }
            }
            return to - from;
        }

        private void planWay(int way, int v, int u) {
            stepCount = 0;
            switch (way) {
                case BY_HPA: planStep(HPA, 1, u, 0); break;
                case BY_VPA: planStep(VPA, 1, v, 0); break;
                case FROM_HERE:
                    planDown(known.row, v);
                    planAcross(known.column, u, v);
                    break;
                case FROM_FIRST_COLUMN:
                    planStep(CR, 1, 0, 0);
                    planDown(known.row, v);
                    planAcross(0, u, v);
                    break;
                case FROM_HOME:
                    planStep(HOME, 1, 0, 0);
                    planDown(0, v);
                    planAcross(0, u, v);
                    break;
                default: planStep(CUP, 1, v, u); break;
            }
        }

        private void planDown(int from, int to) {
            if (to >= from) {
                planPair(CUD1, CUD, to - from);
            } else {
                planPair(CUU1, CUU, from - to);
            }
        }

        private void planPair(int single, int many, int n) {
            if (n > 0 && n * plainLengths[single] <= lengths[many - CUU][n]) {
                planStep(single, n, 0, 0);
            } else if (n > 0) {
                planStep(many, 1, n, 0);
            }
        }

        private void planAcross(int from, int to, int v) {
            if (to <= from) {
                planPair(CUB1, CUB, from - to);
                return;
            }
            int direct = pairLength(CUF1, CUF, to - from);
            int tabs = tabsLength(from, to);
            int copied = copyLength(v, from, to);
            if (direct <= tabs && direct <= copied) {
                planPair(CUF1, CUF, to - from);
            } else if (tabs <= copied) {
                int stop = lastStop(from, to);
                planStep(HT, tabsBetween(from, stop), 0, 0);
                planPair(CUF1, CUF, to - stop);
            } else {
                planStep(NONE, 1, from, to);
            }
        }

        private void planStep(int ability, int times, int p, int q) {
            if (stepCount >= MOST_STEPS) {
                return;
            }
            int step = stepCount * STEP_SIZE;
            steps[step] = ability;
            steps[step + 1] = times;
            steps[step + 2] = p;
            steps[step + 3] = q;
            stepCount++;
        }

        private void copyKnown(int y, int from, int to) {
            for (int x = from; x < to; x++) {
                addByte(known.grid[y * columns + x] & 255);
            }
        }

        private void send(int ability, int times, int p, int q) {
            if (!type.has(ability)) {
                return;
            }
            machine.setParameters(p, q, 0, 0);
            int length = machine.putTogether(type, ability);
            for (int n = 0; n < times; n++) {
                for (int i = 0; i < length; i++) {
                    addByte(machine.made[i]);
                }
            }
        }

        /** What is beyond the room is counted alone: it makes the update come to nothing. */
        private void addByte(int b) {
            if (byteCount < MOST_BYTES) {
                bytes[byteCount] = b;
            }
            byteCount++;
        }
    }

    /** THE LINE DISCIPLINE. */
    private static final class Discipline {
        private static final int IN_LINES = 1;
        private static final int ECHO = 2;
        private static final int RUB = 4;
        private static final int CR_TO_LF = 8;
        private static final int LF_TO_CRLF = 16;
        private static final int SIGNALS = 32;
        private static final int STOPS = 64;
        private static final int TABS_AS_BLANKS = 128;
        private static final int MOST_COLUMN = 10000;
        private static final int TAB_STEP = 8;
        /** An END among the bytes that are READY. */
        private static final int END_MARK = 256;

        private final Bytes queue = new Bytes(8000);
        private final Bytes edited = new Bytes(100);
        private final Bytes ready = new Bytes(MOST_OUT);
        private int flags = 127;
        private boolean isStopped;
        private boolean isLiteral;
        private int signals;
        private int column;
        private int lineStart;
        private int lost;

        private boolean has(int flag) {
            return (flags & flag) != 0;
        }

        int changeFlags(int changed) {
            int old = flags;
            flags = changed;
            if ((old & IN_LINES) != 0 && !has(IN_LINES)) {
                for (int i = 0; i < edited.size(); i++) {
                    ready.add(edited.get(i));
                }
                edited.clear();
                isLiteral = false;
            }
            return old;
        }

        /** TO PUT a byte: how many bytes came to THE QUEUE. */
        int put(int b) {
            int came = 0;
            if (b == LINE_FEED && has(LF_TO_CRLF)) {
                came = enqueue(RETURN) + enqueue(LINE_FEED);
            } else if (b == TAB && has(TABS_AS_BLANKS)) {
                for (int i = column % TAB_STEP; i < TAB_STEP; i++) {
                    came += enqueue(BLANK);
                }
            } else {
                came = enqueue(b);
            }
            column = columnBehind(column, b);
            return came;
        }

        private int enqueue(int b) {
            if (queue.add(b)) {
                return 1;
            }
            lost++;
            return 0;
        }

        private int columnBehind(int from, int b) {
            switch (b) {
                case RETURN: return 0;
                case LINE_FEED: return has(LF_TO_CRLF) ? 0 : from;
                case BACKSPACE: return Math.max(0, from - 1);
                case TAB: return Math.min(MOST_COLUMN, (from / TAB_STEP + 1) * TAB_STEP);
                default: return isPrintable(b) ? Math.min(MOST_COLUMN, from + 1) : from;
            }
        }

        int nextToSend() {
            return isStopped ? NONE : queue.takeFirst();
        }

        /** A byte COMES from the terminal. */
        void receive(int came) {
            int b = came == RETURN && has(CR_TO_LF) && !isLiteral ? LINE_FEED : came;
            if (has(STOPS) && (b == HALT || b == GO_ON)) {
                isStopped = b == HALT;
            } else if (isLiteral) {
                isLiteral = false;
                take(b);
            } else if (has(SIGNALS) && b == 3) {
                interrupt();
            } else if (has(IN_LINES)) {
                edit(b);
            } else {
                take(b);
            }
        }

        private void interrupt() {
            signals++;
            edited.clear();
            ready.clear();
            queue.clear();
            isLiteral = false;
            isStopped = false;
            if (has(ECHO)) {
                put('^');
                put('C');
                put(LINE_FEED);
            }
        }

        private void edit(int b) {
            switch (b) {
                case 22:
                    isLiteral = true;
                    if (has(ECHO)) {
                        put('^');
                        put(BACKSPACE);
                    }
                    break;
                case DELETE:
                case BACKSPACE: rubOut(1); break;
                case 23: rubOut(wordLength()); break;
                case 21: rubOut(edited.size()); break;
                case 18: echoAnew(); break;
                case 4: finishLine(false); break;
                case LINE_FEED: finishLine(true); break;
                default: take(b); break;
            }
        }

        /** TAKEN. */
        private void take(int b) {
            boolean isFirst = edited.size() == 0;
            boolean isTaken = has(IN_LINES) ? edited.add(b) : ready.add(b);
            if (!isTaken) {
                put(BELL);
                return;
            }
            if (isFirst && has(IN_LINES)) {
                lineStart = column;
            }
            echo(b);
        }

        private void echo(int b) {
            if (!has(ECHO)) {
                return;
            }
            if (isEchoedAsItself(b)) {
                put(b);
            } else {
                put('^');
                put(b ^ 64);
            }
        }

        private static boolean isEchoedAsItself(int b) {
            return b == TAB || b == LINE_FEED || isPrintable(b);
        }

        private void echoAnew() {
            if (!has(ECHO)) {
                return;
            }
            put('^');
            put('R');
            put(LINE_FEED);
            lineStart = column;
            for (int i = 0; i < edited.size(); i++) {
                echo(edited.get(i));
            }
        }

        private void finishLine(boolean withLineFeed) {
            int many = edited.size() + (withLineFeed ? 2 : 1);
            if (many > ready.room()) {
                put(BELL);
                return;
            }
            for (int i = 0; i < edited.size(); i++) {
                ready.add(edited.get(i));
            }
            edited.clear();
            if (withLineFeed) {
                ready.add(LINE_FEED);
            }
            ready.add(END_MARK);
            if (withLineFeed && has(ECHO)) {
                put(LINE_FEED);
            }
        }

        /** The BLANKS at the end of what is edited, and what is ahead of them up to a BLANK. */
        private int wordLength() {
            int left = edited.size();
            while (left > 0 && isBlank(edited.get(left - 1))) {
                left--;
            }
            while (left > 0 && !isBlank(edited.get(left - 1))) {
                left--;
            }
            return edited.size() - left;
        }

        private void rubOut(int many) {
            for (int i = 0; i < many && edited.size() > 0; i++) {
                int b = edited.takeLast();
                if (has(ECHO) && has(RUB)) {
                    unecho(b);
                }
            }
        }

        private void unecho(int b) {
            if (b == TAB) {
                int without = columnOfEdited();
                for (int i = column; i > without; i--) {
                    put(BACKSPACE);
                }
            } else if (b != LINE_FEED) {
                int signs = isPrintable(b) ? 1 : 2;
                for (int i = 0; i < signs; i++) {
                    put(BACKSPACE);
                    put(BLANK);
                    put(BACKSPACE);
                }
            }
        }

        private int columnOfEdited() {
            int there = lineStart;
            for (int i = 0; i < edited.size(); i++) {
                int b = edited.get(i);
                if (isEchoedAsItself(b)) {
                    there = columnBehind(there, b);
                } else {
                    there = columnBehind(columnBehind(there, '^'), b ^ 64);
                }
            }
            return there;
        }

        /** READING: how many bytes. */
        int takeReady(int n, int[] to) {
            int taken = 0;
            int many = ready.size();
            for (int i = 0; i < many; i++) {
                boolean isEnd = ready.get(0) == END_MARK;
                boolean isLineEnd = isEnd && has(IN_LINES);
                if (taken >= n && !isLineEnd) {
                    break;
                }
                int b = ready.takeFirst();
                if (isLineEnd) {
                    break;
                }
                if (!isEnd && taken < to.length) {
                    to[taken] = b;
                    taken++;
                }
            }
            return taken;
        }

        int tell(int what) {
            switch (what) {
                case 5: return queue.size();
                case 6: return isStopped ? 1 : 0;
                case 7: return edited.size();
                case 8: return ready.size();
                case 9: return signals;
                case 10: return column;
                case 17: return flags;
                case 18: return lost;
                default: return NONE;
            }
        }
    }

    /** One way of the line: it carries one byte at a time. */
    private static final class Wire {
        private int carried = NONE;
        private int arrival;
        private boolean isSpoiled;
        private int sent;

        boolean isFree() {
            return carried == NONE;
        }

        void carry(int b, int arrivesAt) {
            if (b == NONE) {
                return;
            }
            carried = b;
            arrival = arrivesAt;
            isSpoiled = false;
            sent++;
        }

        boolean spoilByte() {
            isSpoiled = carried != NONE;
            return isSpoiled;
        }

        int arriving(int time) {
            if (carried == NONE || time < arrival) {
                return NONE;
            }
            int b = isSpoiled ? SPOILED : carried;
            carried = NONE;
            return b;
        }
    }

    /** The terminal's screen, and what is done to it. */
    private static final class Glass {
        private static final int INSERT = 1;
        private static final int NEWLINE = 2;
        private static final int CURSOR_KEYS = 4;
        private static final int REVERSED = 8;
        private static final int ORIGIN = 16;
        private static final int WRAP = 32;
        private static final int REPEAT = 64;
        private static final int KEYPAD = 128;
        private static final int STOP_STEP = 8;
        private static final int SCROLL_TIME = 3;
        private static final int ERASE_TIME = 2;

        private final int height;
        private final int breadth;
        private final int[] grid;
        private final int[] widths;
        private final boolean[] stops;
        private int row;
        private int column;
        private boolean isPending;
        private int top;
        private int bottom;
        private int modes;
        private int attributes;
        /** Bit 0 and 1: whether SET 0 and 1 are SIGNS. */
        private int sets;
        private int setInUse;
        private int lamps;
        private int bells;
        private int busy;
        /** Row, column, ATTRIBUTES, SETS, SET in use, ORIGIN. */
        private final int[] saved = new int[6];

        Glass(int rows, int columns) {
            height = nearest(rows, 1, MOST_LINES);
            breadth = nearest(columns, 2, MOST_COLUMNS);
            grid = new int[height * breadth];
            widths = new int[height];
            stops = new boolean[breadth];
            reset();
        }

        void reset() {
            Arrays.fill(grid, 0, grid.length, BLANK);
            Arrays.fill(widths, 0, height, 0);
            for (int x = 0; x < breadth; x++) {
                stops[x] = x > 0 && x % STOP_STEP == 0;
            }
            top = 0;
            bottom = height - 1;
            modes = WRAP | REPEAT;
            attributes = 0;
            sets = 0;
            setInUse = 0;
            lamps = 0;
            place(0, 0);
            save();
        }

        boolean hasCell(int y, int x) {
            return y >= 0 && y < height && x >= 0 && x < breadth;
        }

        boolean has(int mode) {
            return (modes & mode) != 0;
        }

        void turn(int mode, boolean on) {
            modes = on ? modes | mode : modes & ~mode;
        }

        /** LAST of the CURSOR's row. */
        private int last() {
            return widths[row] == 0 ? breadth - 1 : breadth / 2 - 1;
        }

        private int here() {
            return row * breadth + column;
        }

        void place(int y, int x) {
            row = nearest(y, 0, height - 1);
            column = nearest(x, 0, last());
            isPending = false;
        }

        /** A row as told from outside: with ORIGIN from TOP on. */
        void placeTold(int y, int x) {
            if (has(ORIGIN)) {
                place(Math.min(top + y, bottom), x);
            } else {
                place(y, x);
            }
        }

        void placeFirst() {
            place(has(ORIGIN) ? top : 0, 0);
        }

        void goUp(int n) {
            place(Math.max(row - n, row >= top ? top : 0), column);
        }

        void goDown(int n) {
            place(Math.min(row + n, row <= bottom ? bottom : height - 1), column);
        }

        /** A byte 32 .. 126, as the SET in use has it. */
        void print(int b) {
            boolean isSign = (sets >> setInUse & 1) != 0 && b >= 95;
            printSign(isSign ? b + 128 : b);
        }

        void printSign(int sign) {
            if (isPending && has(WRAP)) {
                column = 0;
                index();
            }
            int last = last();
            if (has(INSERT)) {
                slide(grid, here(), last - column + 1, 1, BLANK);
            }
            grid[here()] = sign + 256 * attributes;
            isPending = column >= last && has(WRAP);
            if (column < last) {
                column++;
            }
        }

        void index() {
            if (row == bottom) {
                slideRows(top, bottom, -1);
                isPending = false;
            } else {
                place(row + 1, column);
            }
        }

        void backIndex() {
            if (row == top) {
                slideRows(top, bottom, 1);
                isPending = false;
            } else {
                place(row - 1, column);
            }
        }

        /** Rows go so many down, below 0 up, with their WIDTHS. */
        private void slideRows(int from, int to, int by) {
            int places = nearest(by, -height, height);
            slide(grid, from * breadth, (to - from + 1) * breadth, places * breadth, BLANK);
            slide(widths, from, to - from + 1, places, 0);
            busy = SCROLL_TIME;
        }

        void slideRowsHere(int by) {
            if (row >= top && row <= bottom) {
                slideRows(row, bottom, by);
                place(row, 0);
            }
        }

        void slideCellsHere(int by) {
            slide(grid, here(), last() - column + 1, by, BLANK);
            isPending = false;
        }

        void blankCellsHere(int n) {
            int many = Math.min(n, last() - column + 1);
            Arrays.fill(grid, here(), here() + many, BLANK);
            isPending = false;
        }

        void goToNextStop() {
            int last = last();
            if (column >= last) {
                return;
            }
            int next = column + 1;
            while (next < last && !stops[next]) {
                next++;
            }
            place(row, next);
        }

        void clearStops() {
            for (int x = 0; x < breadth; x++) {
                stops[x] = false;
            }
        }

        /** As K tells: from the CURSOR on, up to it, or all. */
        void eraseRow(int what) {
            int start = row * breadth;
            switch (what) {
                case 0: Arrays.fill(grid, here(), start + breadth, BLANK); break;
                case 1: Arrays.fill(grid, start, here() + 1, BLANK); break;
                case 2: Arrays.fill(grid, start, start + breadth, BLANK); break;
                default: break;
            }
        }

        void eraseScreen(int what) {
            if (what > 2) {
                return;
            }
            boolean isRowWhole = what == 2 || (what == 0 ? column == 0 : column >= last());
            eraseRow(what);
            if (isRowWhole) {
                widths[row] = 0;
            }
            if (what != 0) {
                Arrays.fill(grid, 0, row * breadth, BLANK);
                Arrays.fill(widths, 0, row, 0);
            }
            if (what != 1) {
                Arrays.fill(grid, (row + 1) * breadth, grid.length, BLANK);
                Arrays.fill(widths, row + 1, height, 0);
            }
            busy = ERASE_TIME;
        }

        void align() {
            Arrays.fill(grid, 0, grid.length, 'E');
            Arrays.fill(widths, 0, height, 0);
            top = 0;
            bottom = height - 1;
            place(0, 0);
            busy = ERASE_TIME;
        }

        void setWidth(int width) {
            widths[row] = width;
            int last = last();
            Arrays.fill(grid, row * breadth + last + 1, (row + 1) * breadth, BLANK);
            if (column > last) {
                place(row, last);
            }
        }

        void setMargins(int first, int last) {
            if (first < last && last <= height) {
                top = first - 1;
                bottom = last - 1;
                place(has(ORIGIN) ? top : 0, 0);
            }
        }

        void save() {
            saved[0] = row;
            saved[1] = column;
            saved[2] = attributes;
            saved[3] = sets;
            saved[4] = setInUse;
            saved[5] = modes & ORIGIN;
        }

        void restore() {
            attributes = saved[2];
            sets = saved[3];
            setInUse = saved[4];
            turn(ORIGIN, saved[5] != 0);
            place(saved[0], saved[1]);
        }

        int tell(int what) {
            switch (what) {
                case 0: return row;
                case 1: return column;
                case 2: return isPending ? 1 : 0;
                case 3: return top;
                case 4: return bottom;
                case 5: return attributes;
                case 6: return modes;
                case 7: return lamps;
                case 8: return bells;
                case 10: return busy;
                case 17: return setInUse;
                default: return NONE;
            }
        }
    }

    /** The terminal: what comes to it, how it is read and done, and what it sends. */
    private static final class Terminal {
        private static final int FULL_FROM = 48;
        private static final int FULL_TO = 16;
        private static final int SPOILED_SIGN = 225;

        private static final int PLAIN = 0;
        private static final int ESCAPE = 1;
        private static final int SKIPPED = 2;
        private static final int SEQUENCE = 3;
        private static final int VOID = 4;
        private static final int TEXT = 5;

        private static final int MOST_NUMBERS = 8;
        private static final int GREATEST_NUMBER = 9999;

        private final Glass glass;
        private final Bytes silo = new Bytes(64);
        private final Bytes answers = new Bytes(32);
        private final int[] answer = new int[32];
        private boolean isFull;
        private boolean isHeld;
        private boolean isHushed;
        private boolean hasToldCause;
        private int lost;
        private int reading;
        /** The # ( or ) of an escape; 0 without one. */
        private int kept;
        private final int[] numbers = new int[MOST_NUMBERS];
        private int numberCount;
        private boolean isPrivate;
        private boolean isAtStart;

        Terminal(int rows, int columns) {
            glass = new Glass(rows, columns);
        }

        void receive(int b) {
            if (b == HALT || b == GO_ON) {
                isHushed = b == HALT;
            } else if (!silo.add(b)) {
                lost++;
            }
            if (silo.size() >= FULL_FROM) {
                isFull = true;
            }
        }

        void act() {
            if (glass.busy > 0) {
                glass.busy--;
            } else if (!isHeld && silo.size() > 0) {
                int b = silo.takeFirst();
                if (silo.size() <= FULL_TO) {
                    isFull = false;
                }
                readByte(b);
            }
        }

        int nextToSend() {
            boolean hasCause = isFull || isHeld;
            if (hasCause != hasToldCause) {
                hasToldCause = hasCause;
                return hasCause ? HALT : GO_ON;
            }
            return isHushed ? NONE : answers.takeFirst();
        }

        private void readByte(int b) {
            if (b == SPOILED || b == 26) {
                reading = PLAIN;
                glass.printSign(SPOILED_SIGN);
            } else if (b == 24) {
                reading = PLAIN;
            } else if (b == ESCAPE_BYTE) {
                reading = ESCAPE;
                kept = 0;
            } else if (b == 0 || b >= DELETE) {
                return;
            } else if (reading == TEXT) {
                reading = b == BELL ? PLAIN : TEXT;
            } else if (b < 32) {
                control(b);
            } else if (reading == PLAIN) {
                glass.print(b);
            } else if (reading == ESCAPE) {
                readEscape(b);
            } else if (reading == SEQUENCE) {
                readSequence(b);
            } else if (b >= (reading == SKIPPED ? 48 : 64)) {
                reading = PLAIN;
            }
        }

        private void control(int b) {
            switch (b) {
                case BELL: glass.bells++; break;
                case BACKSPACE: glass.place(glass.row, glass.column - 1); break;
                case TAB: glass.goToNextStop(); break;
                case LINE_FEED:
                case 11:
                case 12:
                    if (glass.has(Glass.NEWLINE)) {
                        glass.place(glass.row, 0);
                    }
                    glass.index();
                    break;
                case RETURN: glass.place(glass.row, 0); break;
                case 14: glass.setInUse = 1; break;
                case 15: glass.setInUse = 0; break;
                default: break;
            }
        }

        private void readEscape(int b) {
            if (b < 48) {
                boolean isKept = kept == 0 && (b == '#' || b == '(' || b == ')');
                reading = isKept ? ESCAPE : SKIPPED;
                kept = b;
                return;
            }
            reading = PLAIN;
            switch (kept) {
                case 0: endEscape(b); break;
                case '#': endHash(b); break;
                case '(': chooseSet(1, b); break;
                case ')': chooseSet(2, b); break;
                default: break;
            }
        }

        private void endEscape(int b) {
            switch (b) {
                case '[': beginSequence(); break;
                case 'P':
                case 'X':
                case ']':
                case '^':
                case '_': reading = TEXT; break;
                case '7': glass.save(); break;
                case '8': glass.restore(); break;
                case 'D': glass.index(); break;
                case 'E':
                    glass.place(glass.row, 0);
                    glass.index();
                    break;
                case 'M': glass.backIndex(); break;
                case 'H': glass.stops[glass.column] = true; break;
                case 'Z': answerWhat(); break;
                case 'c': glass.reset(); break;
                case '=': glass.turn(Glass.KEYPAD, true); break;
                case '>': glass.turn(Glass.KEYPAD, false); break;
                default: break;
            }
        }

        private void endHash(int b) {
            switch (b) {
                case '3': glass.setWidth(2); break;
                case '4': glass.setWidth(3); break;
                case '5': glass.setWidth(0); break;
                case '6': glass.setWidth(1); break;
                case '8': glass.align(); break;
                default: break;
            }
        }

        private void chooseSet(int bit, int b) {
            if (b == 'B') {
                glass.sets &= ~bit;
            } else if (b == '0') {
                glass.sets |= bit;
            }
        }

        private void beginSequence() {
            reading = SEQUENCE;
            numbers[0] = 0;
            numberCount = 1;
            isPrivate = false;
            isAtStart = true;
        }

        private void readSequence(int b) {
            boolean wasAtStart = isAtStart;
            isAtStart = false;
            if (b >= 64) {
                reading = PLAIN;
                if (isPrivate) {
                    turnPrivateModes(b);
                } else {
                    moveOrErase(b);
                }
            } else if (isDigit(b)) {
                int i = nearest(numberCount - 1, 0, MOST_NUMBERS - 1);
                numbers[i] = Math.min(GREATEST_NUMBER, numbers[i] * 10 + b - '0');
            } else if (b == ';' && numberCount < MOST_NUMBERS) {
                numbers[numberCount] = 0;
                numberCount++;
            } else if (b == '?' && wasAtStart) {
                isPrivate = true;
            } else {
                reading = VOID;
            }
        }

        private void moveOrErase(int b) {
            int p = numbers[0];
            int q = numberCount > 1 ? numbers[1] : 0;
            int n = Math.max(1, p);
            switch (b) {
                case 'A': glass.goUp(n); break;
                case 'B': glass.goDown(n); break;
                case 'C': glass.place(glass.row, glass.column + n); break;
                case 'D': glass.place(glass.row, glass.column - n); break;
                case 'G': glass.place(glass.row, n - 1); break;
                case 'd': glass.placeTold(n - 1, glass.column); break;
                case 'H':
                case 'f': glass.placeTold(n - 1, Math.max(1, q) - 1); break;
                case 'J': glass.eraseScreen(p); break;
                case 'K': glass.eraseRow(p); break;
                case 'L': glass.slideRowsHere(n); break;
                case 'M': glass.slideRowsHere(-n); break;
                case '@': glass.slideCellsHere(n); break;
                case 'P': glass.slideCellsHere(-n); break;
                case 'X': glass.blankCellsHere(n); break;
                case 'r': glass.setMargins(n, q == 0 ? glass.height : q); break;
                default: setOrAnswer(b, p); break;
            }
        }

        private void setOrAnswer(int b, int p) {
            switch (b) {
                case 'm': dressByNumbers(); break;
                case 'q': lightByNumbers(); break;
                case 'h': turnModes(true); break;
                case 'l': turnModes(false); break;
                case 'g':
                    if (p == 0) {
                        glass.stops[glass.column] = false;
                    } else if (p == 3) {
                        glass.clearStops();
                    }
                    break;
                case 'c':
                    if (p == 0) {
                        answerWhat();
                    }
                    break;
                case 'n':
                    if (p == 5) {
                        answerWell();
                    } else if (p == 6) {
                        answerPlace();
                    }
                    break;
                default: break;
            }
        }

        private void dressByNumbers() {
            for (int i = 0; i < numberCount; i++) {
                switch (numbers[i]) {
                    case 0: glass.attributes = 0; break;
                    case 1: glass.attributes |= 1; break;
                    case 4: glass.attributes |= 2; break;
                    case 5: glass.attributes |= 4; break;
                    case 7: glass.attributes |= 8; break;
                    case 22: glass.attributes &= ~1; break;
                    case 24: glass.attributes &= ~2; break;
                    case 25: glass.attributes &= ~4; break;
                    case 27: glass.attributes &= ~8; break;
                    default: break;
                }
            }
        }

        private void lightByNumbers() {
            for (int i = 0; i < numberCount; i++) {
                int lamp = numbers[i];
                if (lamp == 0) {
                    glass.lamps = 0;
                } else if (lamp <= 4) {
                    glass.lamps |= 1 << lamp - 1;
                }
            }
        }

        private void turnModes(boolean on) {
            for (int i = 0; i < numberCount; i++) {
                if (numbers[i] == 4) {
                    glass.turn(Glass.INSERT, on);
                } else if (numbers[i] == 20) {
                    glass.turn(Glass.NEWLINE, on);
                }
            }
        }

        private void turnPrivateModes(int b) {
            if (b != 'h' && b != 'l') {
                return;
            }
            boolean on = b == 'h';
            for (int i = 0; i < numberCount; i++) {
                switch (numbers[i]) {
                    case 1: glass.turn(Glass.CURSOR_KEYS, on); break;
                    case 5: glass.turn(Glass.REVERSED, on); break;
                    case 6:
                        glass.turn(Glass.ORIGIN, on);
                        glass.placeFirst();
                        break;
                    case 7: glass.turn(Glass.WRAP, on); break;
                    case 8: glass.turn(Glass.REPEAT, on); break;
                    default: break;
                }
            }
        }

        private void answerWhat() {
            answer[0] = ESCAPE_BYTE;
            answer[1] = '[';
            answer[2] = '?';
            answer[3] = '1';
            answer[4] = ';';
            answer[5] = '2';
            answer[6] = 'c';
            answers.addWhole(answer, 7);
        }

        private void answerWell() {
            answer[0] = ESCAPE_BYTE;
            answer[1] = '[';
            answer[2] = '0';
            answer[3] = 'n';
            answers.addWhole(answer, 4);
        }

        private void answerPlace() {
            int from = glass.has(Glass.ORIGIN) ? glass.top : 0;
            answer[0] = ESCAPE_BYTE;
            answer[1] = '[';
            int many = addNumber(Math.max(1, glass.row - from + 1), 2);
            answer[many] = ';';
            many = addNumber(glass.column + 1, many + 1);
            answer[many] = 'R';
            answers.addWhole(answer, many + 1);
        }

        /** A row's or column's number has two digits at most: the place behind it. */
        private int addNumber(int number, int from) {
            int i = from;
            if (number >= 10) {
                answer[i] = '0' + number / 10 % 10;
                i++;
            }
            answer[i] = '0' + number % 10;
            return i + 1;
        }

        int tell(int what) {
            switch (what) {
                case 9: return silo.size();
                case 11: return isHeld ? 1 : 0;
                case 12: return isHushed ? 1 : 0;
                case 13: return (isFull ? 1 : 0) + (isHeld ? 2 : 0);
                case 14: return answers.size();
                case 15: return reading;
                case 16: return lost;
                default: return NONE;
            }
        }
    }

    /** The keys: which are down, which were SEEN so, and which one repeats. */
    private static final class Keyboard {
        private static final int KEYS = 127;
        private static final int MOST_AT_ONCE = 3;
        private static final int TICKS_TO_REPEAT = 32;
        private static final int TICKS_BETWEEN_REPEATS = 4;
        private static final int FIRST_PAD_KEY = 8;
        private static final int PAD_ENTER = 21;
        private static final int ENTER = 22;
        private static final int HOLD = 27;
        private static final int CONTROL = 28;
        private static final String PAD_SIGNS = "0123456789-,.";
        private static final String PAD_LETTERS = "pqrstuvwxymln";

        private final boolean[] isDown = new boolean[KEYS];
        private final boolean[] isSeen = new boolean[KEYS];
        /** How many keys are down or SEEN: with none a SCAN has nothing to do. */
        private int inPlay;
        private int repeating = NONE;
        private int repeatTime;
        private final int[] bytes = new int[3];

        boolean press(int key, boolean down) {
            if (key < 0 || key >= KEYS || key > CONTROL && key < 32) {
                return false;
            }
            if (down != isDown[key] && !isSeen[key]) {
                inPlay += down ? 1 : -1;
            }
            isDown[key] = down;
            return true;
        }

        void scan(int time, Terminal terminal) {
            if (inPlay == 0) {
                return;
            }
            int struck = 0;
            for (int key = 0; key < KEYS; key++) {
                if (!isDown[key]) {
                    release(key);
                } else if (!isSeen[key] && struck < MOST_AT_ONCE) {
                    struck++;
                    isSeen[key] = true;
                    strike(key, terminal);
                    if (isRepeatable(key)) {
                        repeating = key;
                        repeatTime = time + TICKS_TO_REPEAT;
                    }
                }
            }
            if (repeating != NONE && terminal.glass.has(Glass.REPEAT) && time >= repeatTime) {
                strike(repeating, terminal);
                repeatTime = time + TICKS_BETWEEN_REPEATS;
            }
        }

        private void release(int key) {
            if (isSeen[key]) {
                isSeen[key] = false;
                inPlay--;
            }
            if (repeating == key) {
                repeating = NONE;
            }
        }

        private static boolean isRepeatable(int key) {
            return key != ENTER && key != 23 && key != 26 && key != HOLD && key != CONTROL;
        }

        private void strike(int key, Terminal terminal) {
            if (key == HOLD) {
                terminal.isHeld = !terminal.isHeld;
                return;
            }
            int many = bytesOf(key, terminal.glass);
            if (!terminal.answers.addWhole(bytes, many)) {
                terminal.glass.bells++;
            }
        }

        private int bytesOf(int key, Glass glass) {
            boolean isPad = glass.has(Glass.KEYPAD);
            if (key < 4) {
                return three(glass.has(Glass.CURSOR_KEYS) ? 'O' : '[', 'A' + key);
            }
            if (key < FIRST_PAD_KEY) {
                return three('O', 'P' + key - 4);
            }
            if (key < PAD_ENTER) {
                int i = key - FIRST_PAD_KEY;
                return isPad ? three('O', PAD_LETTERS.charAt(i)) : one(PAD_SIGNS.charAt(i));
            }
            if (key == PAD_ENTER && isPad) {
                return three('O', 'M');
            }
            if (key <= ENTER) {
                bytes[1] = LINE_FEED;
                return one(RETURN) + (glass.has(Glass.NEWLINE) ? 1 : 0);
            }
            switch (key) {
                case 23: return one(TAB);
                case 24: return one(BACKSPACE);
                case 25: return one(DELETE);
                case 26: return one(ESCAPE_BYTE);
                case CONTROL: return 0;
                default: return one(isDown[CONTROL] ? controlled(key) : key);
            }
        }

        private static int controlled(int key) {
            if (key >= 64 && key <= 95 || key >= 97 && key <= 122) {
                return key & 31;
            }
            return key == '?' ? DELETE : key;
        }

        private int one(int b) {
            bytes[0] = b;
            return 1;
        }

        private int three(int second, int third) {
            bytes[0] = ESCAPE_BYTE;
            bytes[1] = second;
            bytes[2] = third;
            return 3;
        }
    }
}
