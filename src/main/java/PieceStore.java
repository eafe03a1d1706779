import java.util.Arrays;

/** A backup store of pieces cut by content; ../shared/DOC.md says what each call promises. */
public final class PieceStore {
    public static final int NONE = -1;

    private static final int TAPE_MOST = 1600;
    private static final int FILE_MOST = 400;
    private static final int BACKUPS_MOST = 12;
    private static final int STORED_MOST = 300;
    private static final int STATEMENTS_MOST = 40;
    private static final int OPEN_MOST = 7;
    private static final int DAY_MOST = 999;
    private static final int AHEAD_MOST = 40;
    private static final int KEPT_MOST = 40;
    private static final int ACTS_MOST = 20;
    private static final int WINDOW_MOST = 16;
    private static final int TOLD_PIECES = 40;
    private static final int LENGTH_MOST = 60;
    private static final int MET_MOST = 16;
    private static final int RESULT_MOST = 1000000;

    // 512 calls feed some 10,000 bytes at the most, so no row of a promised run comes near this.
    private static final int ROW_MOST = 16384;
    // A save that is undone may uncover older ones: 40 that are told and 20 acts must fit.
    private static final int KEPT_RING = 64;

    private static final int FAULT_TEXT = 1;
    private static final int FAULT_NUMBER = 4;
    private static final int FAULT_DEPTH = 5;
    private static final int FAULT_KIND = 6;

    private static final int REFUSED_TAPE = 0;
    private static final int REFUSED_STORE = 1;
    private static final int REFUSED_TIME = 2;
    private static final int REFUSED_FILE = 3;
    private static final int REFUSED_UNDO = 4;
    private static final int REFUSED_TOLD = 5;
    private static final int REFUSED_KINDS = 6;

    // Six letters a word; a word's number is its place in this text.
    private static final String WORDS =
        "box   windowleast normalmost  segs  champsdesk  keep  rot   borderhook  clean day   sum   lengthbyte  print place live  dead  age   min   max   if    not   all   and   or    ";
    private static final int WORD_LETTERS = 6;
    private static final int WORD_COUNT = 29;
    private static final int NUMBER_DIGITS = 4;
    private static final int BOX = 0;
    private static final int WINDOW = 1;
    private static final int LEAST = 2;
    private static final int NORMAL = 3;
    private static final int MOST = 4;
    private static final int SEGS = 5;
    private static final int CHAMPS = 6;
    private static final int DESK = 7;
    private static final int KEEP = 8;
    private static final int ROT = 9;
    private static final int BORDER = 10;
    private static final int HOOK = 11;
    private static final int CLEAN = 12;
    private static final int DAY = 13;
    private static final int SUM = 14;
    private static final int LENGTH = 15;
    private static final int BYTE = 16;
    private static final int PRINT = 17;
    private static final int PLACE = 18;
    private static final int LIVE = 19;
    private static final int DEAD = 20;
    private static final int AGE = 21;
    private static final int MIN = 22;
    private static final int MAX = 23;
    private static final int IF = 24;
    private static final int NOT = 25;
    private static final int ALL = 26;
    private static final int AND = 27;
    private static final int OR = 28;

    // By the words box .. rot.
    private static final int[] NUMBER_LEAST = {60, 1, 1, 1, 30, 1, 0, 1, 0, 0};
    private static final int[] NUMBER_MOST = {200, 16, 30, 60, 60, 8, 4, 6, 99, 100};
    private static final int[] NUMBER_WITHOUT = {0, 4, 3, 8, 30, 4, 2, 2, 0, 0};

    // A step of a code is a word or a sign by its own number, a fact, or a number.
    private static final int STEP_FACT = 100;
    private static final int STEP_NUMBER = 1000;

    private static final int TOKEN_END = 0;
    private static final int TOKEN_WORD = 1;
    private static final int TOKEN_NUMBER = 2;
    private static final int TOKEN_SIGN = 3;
    private static final int TOKEN_BROKEN = 4;

    private final Row tape = new Row();
    private final Row refused = new Row();
    private final Reader reader = new Reader();
    private final Vault vault = new Vault();
    private final Desk desk = new Desk();
    private final Scope scope = new Scope();
    private Rules spare = new Rules();
    private boolean stands = false;
    private int faultKind = 0;
    private int faultPlace = NONE;

    public PieceStore() {
        refused.fill(REFUSED_KINDS, 0);
    }

    public int feed(int a, int b, int c, int d, int e) {
        if (tape.size() + 20 > TAPE_MOST) {
            return refuse(REFUSED_TAPE);
        }
        feedNumber(a);
        feedNumber(b);
        feedNumber(c);
        feedNumber(d);
        feedNumber(e);
        return tape.size();
    }

    public boolean end(int n) {
        if (n < 0 || n > tape.size()) {
            refuse(REFUSED_TAPE);
            return false;
        }
        tape.cutTo(n);
        return true;
    }

    public int store() {
        boolean read = reader.read(tape, spare);
        tape.clear();
        faultKind = reader.faultKind;
        faultPlace = reader.faultPlace;
        if (!read) {
            return refuse(REFUSED_STORE);
        }
        Rules before = vault.rules;
        vault.begin(spare);
        spare = before;
        scope.met.clear();
        stands = true;
        return vault.rules.statements;
    }

    public int fault(int what) {
        switch (what) {
            case 0: return faultKind;
            case 1: return faultPlace;
            default: return NONE;
        }
    }

    public int has(int what) {
        switch (what) {
            case 0: return vault.rules.number(BOX);
            case 1: return vault.countBackups(0);
            case 2: return vault.now.piece.size();
            case 3: return vault.countLive(0);
            case 4: return vault.now.boxDay.size();
            case 5: return vault.now.boxBytes.total();
            case 6: return vault.now.hooks;
            case 7: return vault.now.day;
            case 8: return Math.min(vault.now.saves, KEPT_MOST);
            case 9: return scope.met.size() / 2;
            case 10: return vault.undoable;
            case 11: return vault.seed;
            default: return NONE;
        }
    }

    public int backup(int backup, int what) {
        if (!vault.hasBackup(backup)) {
            return NONE;
        }
        switch (what) {
            case 0: return vault.now.backupDay.at(backup);
            case 1: return vault.bytesOf(backup);
            case 2: return vault.now.backupCount.at(backup);
            default: return NONE;
        }
    }

    public int piece(int backup, int k, int what) {
        int spot = vault.spotOf(backup, k);
        if (spot == NONE) {
            return NONE;
        }
        switch (what) {
            case 0: return vault.lengthAt(spot);
            case 1: return vault.printAt(spot);
            case 2: return vault.now.boxAt.at(spot);
            case 3: return spot - vault.now.boxFirst.at(vault.now.boxAt.at(spot));
            case 4: return vault.now.spoiled.at(spot);
            default: return NONE;
        }
    }

    public int box(int box, int what) {
        if (box < 0 || box >= vault.now.boxDay.size()) {
            return NONE;
        }
        switch (what) {
            case 0: return vault.now.boxBytes.at(box);
            case 1: return vault.now.boxEnd(box) - vault.now.boxFirst.at(box);
            case 2: return vault.countLiveIn(box);
            case 3: return vault.now.day - vault.now.boxDay.at(box);
            case 4: return vault.now.broken.at(box);
            case 5: return vault.isForCleaning(box) ? 1 : 0;
            default: return NONE;
        }
    }

    public int octet(int backup, int k) {
        if (!vault.hasBackup(backup)) {
            return NONE;
        }
        vault.layOut(backup);
        return vault.cutter.file.at(k);
    }

    public int cuts(int k) {
        if (!takeFile()) {
            return refuse(REFUSED_FILE);
        }
        vault.cutFile();
        if (k == NONE) {
            return vault.cutter.count();
        }
        int length = vault.cutter.lengthOf(k);
        return length > 0 ? length : NONE;
    }

    public int shared(int backup, int other) {
        if (!vault.hasBackup(backup) || !vault.hasBackup(other)) {
            return NONE;
        }
        return vault.bytesWith(backup, other);
    }

    public int edit(int backup, int k, int to) {
        if (!vault.hasBackup(backup) || to < 0 || to > 255) {
            return NONE;
        }
        vault.layOut(backup);
        if (k < 0 || k >= vault.cutter.file.size()) {
            return NONE;
        }
        vault.cutter.file.put(k, to);
        vault.cutFile();
        return vault.countForeign(backup);
    }

    public int why(int backup, int what) {
        int k = vault.lostAt(backup);
        int spot = vault.spotOf(backup, k);
        if (spot == NONE) {
            return NONE;
        }
        int box = vault.now.boxAt.at(spot);
        switch (what) {
            case 0: return k;
            case 1: return vault.now.broken.at(box) == 1 ? 1 : 2;
            case 2: return box;
            default: return NONE;
        }
    }

    public int fetches(int backup, int plan) {
        if (!vault.hasBackup(backup) || plan < 0 || plan > 1) {
            return NONE;
        }
        desk.visit(vault, backup);
        return desk.count(vault.rules.number(DESK), plan);
    }

    public int later(int n, int what) {
        if (n < 0 || !canPass(n)) {
            return NONE;
        }
        switch (what) {
            case 0: return vault.countBackups(n);
            case 1: return vault.countLive(n);
            case 2: return vault.countLiveBytes(n);
            default: return NONE;
        }
    }

    public int expires(int backup) {
        if (!vault.hasBackup(backup)) {
            return NONE;
        }
        for (int n = 1; n <= AHEAD_MOST; n++) {
            if (canPass(n) && vault.isGone(backup, n)) {
                return n;
            }
        }
        return NONE;
    }

    public int gain(int what) {
        if (!stands || what < 0 || what > 1) {
            return NONE;
        }
        vault.cleanInto(vault.other);
        if (what == 0) {
            return vault.now.boxBytes.total() - vault.other.boxBytes.total();
        }
        return Math.max(0, vault.now.boxDay.size() - vault.other.boxDay.size());
    }

    public int odds(int backup) {
        int boxes = vault.now.boxDay.size();
        if (boxes == 0 || !canPass(1)) {
            return NONE;
        }
        if (backup == NONE) {
            return 100 * boxes;
        }
        if (!vault.hasBackup(backup)) {
            return NONE;
        }
        if (vault.lostAt(backup) != NONE) {
            return 0;
        }
        return 100 * boxes - vault.rules.number(ROT) * vault.countBoxesOf(backup);
    }

    public int meet() {
        boolean met = stands && scope.meetRows(tape);
        tape.clear();
        return met ? scope.met.size() / 2 : refuse(REFUSED_TOLD);
    }

    public int windows(int backup) {
        return vault.hasBackup(backup) ? scope.windowsLeft(vault, backup) : NONE;
    }

    public int tells(int backup, int what) {
        if (!vault.hasBackup(backup) || what < 0 || what > 1) {
            return NONE;
        }
        int left = scope.windowsLeft(vault, backup);
        if (left == 0) {
            return NONE;
        }
        int telling = scope.telling(left);
        return what == 0 ? telling : scope.worstBy(telling, left);
    }

    public int save() {
        boolean taken = takeFile();
        if (taken) {
            vault.cutFile();
        }
        if (!taken || !vault.canSave()) {
            return refuse(REFUSED_FILE);
        }
        return vault.saveFile();
    }

    public boolean forget(int backup) {
        if (!vault.hasBackup(backup)) {
            refuse(REFUSED_FILE);
            return false;
        }
        vault.remember();
        vault.now.dropBackup(backup);
        return true;
    }

    public int days(int n) {
        if (n < 1 || !canPass(n)) {
            return refuse(REFUSED_TIME);
        }
        vault.remember();
        return vault.passDays(n);
    }

    public int chance(int n) {
        if (n < 1 || !canPass(n)) {
            return refuse(REFUSED_TIME);
        }
        vault.remember();
        int drawn = 0;
        for (int i = 0; i < n; i++) {
            drawn += vault.rotBox() ? 1 : 0;
            vault.passDays(1);
        }
        return drawn;
    }

    public int clean() {
        int cleaned = vault.cleanInto(vault.other);
        if (cleaned == 0) {
            return refuse(REFUSED_TIME);
        }
        vault.remember();
        vault.becomes(vault.other);
        return cleaned;
    }

    public boolean spoil(int backup, int k) {
        int spot = vault.spotOf(backup, k);
        if (vault.now.spoiled.at(spot) != 0) {
            refuse(REFUSED_FILE);
            return false;
        }
        vault.remember();
        vault.now.spoiled.put(spot, 1);
        return true;
    }

    public boolean smash(int box) {
        if (vault.now.broken.at(box) != 0) {
            refuse(REFUSED_FILE);
            return false;
        }
        vault.remember();
        vault.now.broken.put(box, 1);
        return true;
    }

    public boolean undo() {
        if (!vault.goBack()) {
            refuse(REFUSED_UNDO);
            return false;
        }
        return true;
    }

    public boolean seed(int seed) {
        if (seed < 0) {
            refuse(REFUSED_TOLD);
            return false;
        }
        vault.seed = seed;
        return true;
    }

    public int kept(int k, int what) {
        int told = Math.min(vault.now.saves, KEPT_MOST);
        if (k < 0 || k >= told) {
            return NONE;
        }
        int ring = (vault.now.saves - told + k) % KEPT_RING;
        switch (what) {
            case 0: return vault.keptDay.at(ring);
            case 1: return vault.keptPieces.at(ring);
            case 2: return vault.keptWritten.at(ring);
            default: return NONE;
        }
    }

    public int status(int what) {
        return refused.at(what);
    }

    private int refuse(int kind) {
        refused.put(kind, refused.at(kind) + 1);
        return NONE;
    }

    private void feedNumber(int number) {
        for (int shift = 24; shift >= 0; shift -= 8) {
            tape.add((number >>> shift) & 255);
        }
    }

    /** The tape goes, whether or not it is a file that the store can take. */
    private boolean takeFile() {
        boolean isFile = stands && tape.size() >= 1 && tape.size() <= FILE_MOST;
        if (isFile) {
            vault.cutter.file.copyFrom(tape);
        }
        tape.clear();
        return isFile;
    }

    private boolean canPass(int n) {
        return stands && n <= AHEAD_MOST && vault.now.day + n <= DAY_MOST;
    }

    /** Numbers behind one another; beside itself a row answers NONE, so that no index can go wrong. */
    private static final class Row {
        private int[] cells = new int[16];
        private int size = 0;

        int size() {
            return size;
        }

        int at(int i) {
            return i >= 0 && i < size && i < cells.length ? cells[i] : NONE;
        }

        void put(int i, int value) {
            if (i >= 0 && i < size && i < cells.length) {
                cells[i] = value;
            }
        }

        void add(int value) {
            if (size >= cells.length && size < ROW_MOST) {
                cells = Arrays.copyOf(cells, 2 * cells.length);
            }
            if (size >= 0 && size < cells.length) {
                cells[size] = value;
                size++;
            }
        }

        int pop() {
            int last = at(size - 1);
            cutTo(size - 1);
            return last;
        }

        void clear() {
            size = 0;
        }

        void cutTo(int count) {
            if (count >= 0 && count < size) {
                size = count;
            }
        }

        void fill(int count, int value) {
            size = 0;
            for (int i = 0; i < count; i++) {
                add(value);
            }
        }

        void copyFrom(Row other) {
            if (cells.length < other.size) {
                cells = new int[other.cells.length];
            }
            size = Math.min(other.size, cells.length);
            System.arraycopy(other.cells, 0, cells, 0, size);
        }

        int total() {
            int sum = 0;
            for (int i = 0; i < size; i++) {
                sum += at(i);
            }
            return sum;
        }

        int indexOf(int value) {
            for (int i = 0; i < size; i++) {
                if (at(i) == value) {
                    return i;
                }
            }
            return NONE;
        }
    }

    /** A TEST with its operands ahead of what is done with them: no depth of its own when it is asked. */
    private static final class Code {
        private final Row steps = new Row();
        private final Row stack = new Row();

        boolean holds(Row facts) {
            stack.clear();
            for (int i = 0; i < steps.size(); i++) {
                int step = steps.at(i);
                if (step >= STEP_NUMBER) {
                    stack.add(step - STEP_NUMBER);
                } else if (step >= STEP_FACT) {
                    stack.add(facts.at(step - STEP_FACT));
                } else if (step == NOT) {
                    stack.add(1 - stack.pop());
                } else {
                    int b = stack.pop();
                    int a = stack.pop();
                    boolean second = step == IF && stack.pop() != 1;
                    stack.add(second ? b : result(step, a, b));
                }
            }
            return stack.at(0) == 1;
        }

        private static int result(int step, int a, int b) {
            switch (step) {
                case '+': return bounded((long) a + b);
                case '-': return bounded((long) a - b);
                case '*': return bounded((long) a * b);
                case '/': return b == 0 ? 0 : Math.floorDiv(a, b);
                case '%': return b == 0 ? 0 : Math.floorMod(a, b);
                case MIN: return a < b ? a : b;
                case MAX: return a > b ? a : b;
                case IF: return a;
                case '<': return a < b ? 1 : 0;
                case '>': return a > b ? 1 : 0;
                case '=': return a == b ? 1 : 0;
                case AND: return a & b;
                default: return a | b;
            }
        }

        private static int bounded(long value) {
            if (value > RESULT_MOST) {
                return RESULT_MOST;
            }
            return value < -RESULT_MOST ? -RESULT_MOST : (int) value;
        }
    }

    /** What the text of a store tells. */
    private static final class Rules {
        private final Row numbers = new Row();
        private final Code border = new Code();
        private final Code hook = new Code();
        private final Code clean = new Code();
        private final Row facts = new Row();
        private int statements = 0;

        Rules() {
            facts.fill(WORD_COUNT, 0);
            begin();
        }

        void begin() {
            numbers.clear();
            for (int i = 0; i < NUMBER_WITHOUT.length; i++) {
                numbers.add(NUMBER_WITHOUT[i]);
            }
            border.steps.clear();
            hook.steps.clear();
            clean.steps.clear();
            statements = 0;
        }

        int number(int word) {
            return numbers.at(word);
        }

        Code testOf(int word) {
            switch (word) {
                case BORDER: return border;
                case HOOK: return hook;
                default: return clean;
            }
        }

        boolean isBorder(int day, int sum, int length, int octet) {
            int normal = number(NORMAL);
            if (border.steps.size() == 0) {
                return sum % (length < normal ? 8 : 3) == 0;
            }
            facts.put(DAY, day);
            facts.put(SUM, sum);
            facts.put(LENGTH, length);
            facts.put(BYTE, octet);
            facts.put(NORMAL, normal);
            return border.holds(facts);
        }

        boolean isHook(int day, int print, int length, int place) {
            if (hook.steps.size() == 0) {
                return print % 2 == 0;
            }
            facts.put(DAY, day);
            facts.put(PRINT, print);
            facts.put(LENGTH, length);
            facts.put(PLACE, place);
            return hook.holds(facts);
        }

        boolean isForCleaning(int day, int live, int dead, int age) {
            if (clean.steps.size() == 0) {
                return dead > live;
            }
            facts.put(DAY, day);
            facts.put(LIVE, live);
            facts.put(DEAD, dead);
            facts.put(AGE, age);
            return clean.holds(facts);
        }
    }

    /** Reads the text of a store: first it is split into tokens, then these are taken one by one. */
    private static final class Reader {
        private final Row words = new Row();
        private final Row kinds = new Row();
        private final Row values = new Row();
        private final Row starts = new Row();
        private int token = 0;
        private int kind = TOKEN_END;
        private int value = 0;
        private int start = 0;
        private int open = 0;
        private int test = BORDER;
        private Code code = new Code();
        private int faultKind = 0;
        private int faultPlace = NONE;

        Reader() {
            for (int i = 0; i < WORD_COUNT; i++) {
                words.add(packedWord(i));
            }
        }

        private static int packedWord(int word) {
            int packed = 0;
            for (int i = 0; i < WORD_LETTERS; i++) {
                int at = WORD_LETTERS * word + i;
                if (at < WORDS.length() && WORDS.charAt(at) != ' ') {
                    packed = packed * 32 + WORDS.charAt(at) - 'a' + 1;
                }
            }
            return packed;
        }

        boolean read(Row text, Rules rules) {
            split(text);
            rules.begin();
            token = -1;
            open = 0;
            faultKind = 0;
            faultPlace = NONE;
            goOn();
            // One more turn than there may be statements: it meets the one that is too many.
            for (int i = 0; i <= STATEMENTS_MOST && kind != TOKEN_END; i++) {
                if (!statement(rules)) {
                    return false;
                }
            }
            return rules.statements > 0 || isWrong();
        }

        // ---- tokens

        private void split(Row text) {
            kinds.clear();
            values.clear();
            starts.clear();
            int at = 0;
            for (int i = 0; i < TAPE_MOST && at < text.size(); i++) {
                int octet = text.at(at);
                if (isLetter(octet)) {
                    at = splitWord(text, at);
                } else if (isDigit(octet)) {
                    at = splitNumber(text, at);
                } else {
                    if (octet != 10 && octet != 32) {
                        addToken(TOKEN_SIGN, octet, at);
                    }
                    at++;
                }
            }
            addToken(TOKEN_END, 0, text.size());
        }

        private void addToken(int kind, int value, int start) {
            kinds.add(kind);
            values.add(value);
            starts.add(start);
        }

        private static boolean isLetter(int octet) {
            return octet >= 'a' && octet <= 'z';
        }

        private static boolean isDigit(int octet) {
            return octet >= '0' && octet <= '9';
        }

        /** Nothing behind a broken token is ever asked for. */
        private int breakOff(Row text, int place, int start) {
            addToken(TOKEN_BROKEN, place, start);
            return text.size();
        }

        // A missing blank is looked for ahead of the length: its fault comes first along the text.
        private int splitWord(Row text, int start) {
            if (isDigit(text.at(start - 1))) {
                return breakOff(text, start, start);
            }
            int at = start;
            int packed = 0;
            while (at < text.size() && at - start < WORD_LETTERS && isLetter(text.at(at))) {
                packed = packed * 32 + text.at(at) - 'a' + 1;
                at++;
            }
            if (isLetter(text.at(at))) {
                return breakOff(text, at, start);
            }
            addToken(TOKEN_WORD, words.indexOf(packed), start);
            return at;
        }

        private int splitNumber(Row text, int start) {
            if (isLetter(text.at(start - 1))) {
                return breakOff(text, start, start);
            }
            int at = start;
            int value = 0;
            while (at < text.size() && at - start < NUMBER_DIGITS && isDigit(text.at(at))) {
                value = value * 10 + text.at(at) - '0';
                at++;
            }
            if (isDigit(text.at(at))) {
                return breakOff(text, at, start);
            }
            addToken(TOKEN_NUMBER, value, start);
            return at;
        }

        // ---- statements

        private void goOn() {
            token++;
            kind = kinds.at(token);
            value = values.at(token);
            start = starts.at(token);
        }

        private boolean isWord(int word) {
            return kind == TOKEN_WORD && value == word;
        }

        private boolean isSign(int sign) {
            return kind == TOKEN_SIGN && value == sign;
        }

        /** Never true: so that a reader can leave with what it answers. */
        private boolean fails(int fault, int place) {
            faultKind = fault;
            faultPlace = place;
            return false;
        }

        private boolean isWrong() {
            return fails(FAULT_TEXT, kind == TOKEN_BROKEN ? value : start);
        }

        private boolean takes(int sign) {
            if (!isSign(sign)) {
                return isWrong();
            }
            goOn();
            return true;
        }

        private boolean statement(Rules rules) {
            if (rules.statements == STATEMENTS_MOST) {
                return fails(FAULT_KIND, start);
            }
            int word = kind == TOKEN_WORD ? value : NONE;
            if ((word == BOX) != (rules.statements == 0) || word < BOX || word > CLEAN) {
                return isWrong();
            }
            boolean told = word < BORDER ? tellsNumber(rules, word) : tellsTest(rules, word);
            if (!told || !takes(';')) {
                return false;
            }
            rules.statements++;
            return true;
        }

        private boolean tellsNumber(Rules rules, int word) {
            goOn();
            if (kind != TOKEN_NUMBER || word < 0 || word >= NUMBER_LEAST.length || word >= NUMBER_MOST.length) {
                return isWrong();
            }
            if (value < NUMBER_LEAST[word] || value > NUMBER_MOST[word]) {
                return fails(FAULT_NUMBER, start);
            }
            rules.numbers.put(word, value);
            goOn();
            return true;
        }

        private boolean tellsTest(Rules rules, int word) {
            code = rules.testOf(word);
            test = word;
            if (code.steps.size() > 0) {
                return fails(FAULT_KIND, start);
            }
            goOn();
            return readTest();
        }

        // ---- tests and sums; they call one another, and opens() keeps them from going deep

        private boolean opens() {
            if (open == OPEN_MOST) {
                return fails(FAULT_DEPTH, start);
            }
            open++;
            goOn();
            return true;
        }

        private boolean closes() {
            open--;
            return true;
        }

        private boolean adds(int step) {
            code.steps.add(step);
            return true;
        }

        private boolean readTest() {
            boolean fine = readBoth();
            for (int i = 0; i < TAPE_MOST && fine && isWord(OR); i++) {
                goOn();
                fine = readBoth() && adds(OR);
            }
            return fine;
        }

        private boolean readBoth() {
            boolean fine = readFact();
            for (int i = 0; i < TAPE_MOST && fine && isWord(AND); i++) {
                goOn();
                fine = readFact() && adds(AND);
            }
            return fine;
        }

        private boolean readFact() {
            if (isWord(NOT)) {
                return opens() && readFact() && closes() && adds(NOT);
            }
            if (isSign('[')) {
                return opens() && readTest() && takes(']') && closes();
            }
            if (isWord(ALL)) {
                goOn();
                return adds(STEP_NUMBER + 1);
            }
            return readSum() && readComparison();
        }

        private boolean readComparison() {
            int sign = value;
            if (!isSign('<') && !isSign('>') && !isSign('=')) {
                return isWrong();
            }
            goOn();
            return readSum() && adds(sign);
        }

        private boolean readSum() {
            boolean fine = readProduct();
            for (int i = 0; i < TAPE_MOST && fine && (isSign('+') || isSign('-')); i++) {
                int sign = value;
                goOn();
                fine = readProduct() && adds(sign);
            }
            return fine;
        }

        private boolean readProduct() {
            boolean fine = readPart();
            for (int i = 0; i < TAPE_MOST && fine && (isSign('*') || isSign('/') || isSign('%')); i++) {
                int sign = value;
                goOn();
                fine = readPart() && adds(sign);
            }
            return fine;
        }

        private boolean readPart() {
            if (isSign('(')) {
                return opens() && readSum() && takes(')') && closes();
            }
            if (kind == TOKEN_NUMBER) {
                adds(STEP_NUMBER + value);
                goOn();
                return true;
            }
            int word = kind == TOKEN_WORD ? value : NONE;
            if (word == MIN || word == MAX || word == IF) {
                goOn();
                return readCall(word);
            }
            if (!isFact(word)) {
                return isWrong();
            }
            goOn();
            return adds(STEP_FACT + word);
        }

        private boolean readCall(int word) {
            if (!isSign('(')) {
                return isWrong();
            }
            if (!opens()) {
                return false;
            }
            if (word == IF && !(readTest() && takes(','))) {
                return false;
            }
            return readSum() && takes(',') && readSum() && takes(')') && closes() && adds(word);
        }

        private boolean isFact(int word) {
            switch (word) {
                case DAY: return true;
                case SUM: case BYTE: case NORMAL: return test == BORDER;
                case LENGTH: return test == BORDER || test == HOOK;
                case PRINT: case PLACE: return test == HOOK;
                case LIVE: case DEAD: case AGE: return test == CLEAN;
                default: return false;
            }
        }
    }

    /** Cuts the file that lies in it. */
    private static final class Cutter {
        private final Row file = new Row();
        private final Row ends = new Row();

        void cut(Rules rules, int window, int day) {
            int gone = 1;
            for (int i = 0; i < window; i++) {
                gone = gone * 31 % 1009;
            }
            ends.clear();
            int least = rules.number(LEAST);
            int most = rules.number(MOST);
            int sum = 0;
            int length = 0;
            for (int i = 0; i < file.size(); i++) {
                int octet = file.at(i);
                int left = i >= window ? file.at(i - window) : 0;
                sum = Math.floorMod(31 * sum + octet - gone * left, 1009);
                length++;
                boolean ended = length >= most || i == file.size() - 1;
                if (ended || length >= least && rules.isBorder(day, sum, length, octet)) {
                    ends.add(i + 1);
                    length = 0;
                }
            }
        }

        int count() {
            return ends.size();
        }

        int firstOf(int k) {
            return k > 0 ? ends.at(k - 1) : 0;
        }

        /** 0 when there is no such piece. */
        int lengthOf(int k) {
            return k >= 0 && k < ends.size() ? ends.at(k) - firstOf(k) : 0;
        }
    }

    /** Unlike pieces by their bytes: pieces are equal when they have the same form. Forms stay, also when a save is undone. */
    private static final class Forms {
        private final Row bytes = new Row();
        private final Row first = new Row();
        private final Row length = new Row();
        private final Row print = new Row();
        private final Row heads = new Row();
        private final Row next = new Row();
        private final Row told = new Row();
        private final Row seen = new Row();

        void clear() {
            bytes.clear();
            first.clear();
            length.clear();
            print.clear();
            heads.fill(256, NONE);
            next.clear();
            told.clear();
            seen.clear();
        }

        static int printOf(Row file, int from, int count) {
            int c = 7;
            for (int i = 0; i < count; i++) {
                c = (257 * c + file.at(from + i) + 1) % 65521;
            }
            return c;
        }

        int find(Row file, int from, int count) {
            int wanted = printOf(file, from, count);
            int form = heads.at(wanted & 255);
            for (int i = 0; i < ROW_MOST && form != NONE; i++) {
                if (print.at(form) == wanted && length.at(form) == count && isAt(form, file, from)) {
                    return form;
                }
                form = next.at(form);
            }
            return NONE;
        }

        private boolean isAt(int form, Row file, int from) {
            for (int i = 0; i < length.at(form); i++) {
                if (bytes.at(first.at(form) + i) != file.at(from + i)) {
                    return false;
                }
            }
            return true;
        }

        int findOrAdd(Row file, int from, int count) {
            int found = find(file, from, count);
            if (found != NONE) {
                return found;
            }
            int form = first.size();
            int own = printOf(file, from, count);
            first.add(bytes.size());
            for (int i = 0; i < count; i++) {
                bytes.add(file.at(from + i));
            }
            length.add(count);
            print.add(own);
            next.add(heads.at(own & 255));
            heads.put(own & 255, form);
            told.add(NONE);
            seen.add(0);
            return form;
        }

        void layOut(int form, Row file) {
            for (int i = 0; i < length.at(form); i++) {
                file.add(bytes.at(first.at(form) + i));
            }
        }
    }

    /** What acts change: stored pieces box by box in one row, boxes, backups. Made anew by undoing. */
    private static final class State {
        private final Row piece = new Row();
        private final Row spoiled = new Row();
        private final Row boxAt = new Row();
        private final Row boxFirst = new Row();
        private final Row boxBytes = new Row();
        private final Row boxDay = new Row();
        private final Row broken = new Row();
        private final Row backupDay = new Row();
        private final Row backupFirst = new Row();
        private final Row backupCount = new Row();
        private int day = 0;
        private int hooks = 0;
        private int saves = 0;
        private int uses = 0;
        private int segments = 0;

        void begin() {
            emptyBoxes();
            backupDay.fill(BACKUPS_MOST, 0);
            backupFirst.fill(BACKUPS_MOST, 0);
            backupCount.fill(BACKUPS_MOST, 0);
            day = 0;
            hooks = 0;
            saves = 0;
            uses = 0;
            segments = 0;
        }

        void emptyBoxes() {
            piece.clear();
            spoiled.clear();
            boxAt.clear();
            boxFirst.clear();
            boxBytes.clear();
            boxDay.clear();
            broken.clear();
        }

        void copyFrom(State from) {
            piece.copyFrom(from.piece);
            spoiled.copyFrom(from.spoiled);
            boxAt.copyFrom(from.boxAt);
            boxFirst.copyFrom(from.boxFirst);
            boxBytes.copyFrom(from.boxBytes);
            boxDay.copyFrom(from.boxDay);
            broken.copyFrom(from.broken);
            copyRest(from);
        }

        void copyRest(State from) {
            backupDay.copyFrom(from.backupDay);
            backupFirst.copyFrom(from.backupFirst);
            backupCount.copyFrom(from.backupCount);
            day = from.day;
            hooks = from.hooks;
            saves = from.saves;
            uses = from.uses;
            segments = from.segments;
        }

        int boxEnd(int box) {
            return box + 1 < boxFirst.size() ? boxFirst.at(box + 1) : piece.size();
        }

        void openBox(int since, int isBroken) {
            boxFirst.add(piece.size());
            boxBytes.add(0);
            boxDay.add(since);
            broken.add(isBroken);
        }

        void append(int id, int length, int isSpoiled) {
            int last = boxDay.size() - 1;
            piece.add(id);
            spoiled.add(isSpoiled);
            boxAt.add(last);
            boxBytes.put(last, boxBytes.at(last) + length);
        }

        void write(int id, int length, int isSpoiled, int room) {
            int last = boxDay.size() - 1;
            if (last < 0 || boxBytes.at(last) + length > room) {
                openBox(day, 0);
            }
            append(id, length, isSpoiled);
        }

        void dropBackup(int backup) {
            backupCount.put(backup, 0);
        }
    }

    /**
     * All that is saved. A stored piece has a number that is never given again; a use is a piece of a saved
     * file, and uses stand one behind the other, so that backups and segments are runs of uses.
     */
    private static final class Vault {
        private Rules rules = new Rules();
        private final Cutter cutter = new Cutter();
        private final Forms forms = new Forms();
        private final Saver saver = new Saver();
        private final Row pieceForm = new Row();
        private final Row pieceSpot = new Row();
        private final Row usePiece = new Row();
        private final Row segmentFirst = new Row();
        private final Row marks = new Row();
        private final Row chosen = new Row();
        private final State now = new State();
        private final State other = new State();
        private final State[] past = new State[ACTS_MOST];
        private int pastNext = 0;
        private int undoable = 0;
        private int seed = 1;
        private final Row keptDay = new Row();
        private final Row keptPieces = new Row();
        private final Row keptWritten = new Row();

        Vault() {
            begin(rules);
        }

        private void begin(Rules told) {
            rules = told;
            forms.clear();
            pieceForm.clear();
            pieceSpot.clear();
            usePiece.clear();
            saver.toldBefore.clear();
            segmentFirst.clear();
            now.begin();
            pastNext = 0;
            undoable = 0;
            keptDay.fill(KEPT_RING, 0);
            keptPieces.fill(KEPT_RING, 0);
            keptWritten.fill(KEPT_RING, 0);
        }

        // ---- what is there

        boolean hasBackup(int backup) {
            return now.backupCount.at(backup) > 0;
        }

        /** Where the k-th piece of a backup lies among all stored pieces. */
        int spotOf(int backup, int k) {
            if (k < 0 || k >= now.backupCount.at(backup)) {
                return NONE;
            }
            return pieceSpot.at(usePiece.at(now.backupFirst.at(backup) + k));
        }

        int formAt(int spot) {
            return pieceForm.at(now.piece.at(spot));
        }

        int lengthAt(int spot) {
            return forms.length.at(formAt(spot));
        }

        int printAt(int spot) {
            return forms.print.at(formAt(spot));
        }

        int bytesOf(int backup) {
            int sum = 0;
            for (int k = 0; k < now.backupCount.at(backup); k++) {
                sum += lengthAt(spotOf(backup, k));
            }
            return sum;
        }

        void layOut(int backup) {
            cutter.file.clear();
            for (int k = 0; k < now.backupCount.at(backup); k++) {
                forms.layOut(formAt(spotOf(backup, k)), cutter.file);
            }
        }

        void cutFile() {
            cutter.cut(rules, rules.number(WINDOW), now.day);
        }

        int bytesWith(int backup, int with) {
            marks.fill(now.piece.size(), 0);
            markPieces(with);
            int sum = 0;
            for (int k = 0; k < now.backupCount.at(backup); k++) {
                int spot = spotOf(backup, k);
                sum += marks.at(spot) == 1 ? lengthAt(spot) : 0;
            }
            return sum;
        }

        /** How many pieces of the cut file are equal to none of a backup. */
        int countForeign(int backup) {
            for (int k = 0; k < now.backupCount.at(backup); k++) {
                forms.seen.put(formAt(spotOf(backup, k)), 1);
            }
            int foreign = 0;
            for (int k = 0; k < cutter.count(); k++) {
                int form = forms.find(cutter.file, cutter.firstOf(k), cutter.lengthOf(k));
                foreign += forms.seen.at(form) == 1 ? 0 : 1;
            }
            for (int k = 0; k < now.backupCount.at(backup); k++) {
                forms.seen.put(formAt(spotOf(backup, k)), 0);
            }
            return foreign;
        }

        // ---- what lives, now or behind some days

        boolean isGone(int backup, int days) {
            int keep = rules.number(KEEP);
            return keep > 0 && days > 0 && now.day + days - now.backupDay.at(backup) >= keep;
        }

        int countBackups(int days) {
            int count = 0;
            for (int b = 0; b < BACKUPS_MOST; b++) {
                count += hasBackup(b) && !isGone(b, days) ? 1 : 0;
            }
            return count;
        }

        private void markPieces(int backup) {
            for (int k = 0; k < now.backupCount.at(backup); k++) {
                marks.put(spotOf(backup, k), 1);
            }
        }

        private void markLive(int days) {
            marks.fill(now.piece.size(), 0);
            for (int b = 0; b < BACKUPS_MOST; b++) {
                if (hasBackup(b) && !isGone(b, days)) {
                    markPieces(b);
                }
            }
        }

        int countLive(int days) {
            markLive(days);
            return marks.total();
        }

        int countLiveBytes(int days) {
            markLive(days);
            return liveBytes(0, now.piece.size());
        }

        private int liveBytes(int from, int to) {
            int sum = 0;
            for (int spot = from; spot < to; spot++) {
                sum += marks.at(spot) == 1 ? lengthAt(spot) : 0;
            }
            return sum;
        }

        int countLiveIn(int box) {
            markLive(0);
            int count = 0;
            for (int spot = now.boxFirst.at(box); spot < now.boxEnd(box); spot++) {
                count += marks.at(spot);
            }
            return count;
        }

        // ---- reading

        /** The first piece that cannot be read. */
        int lostAt(int backup) {
            for (int k = 0; k < now.backupCount.at(backup); k++) {
                int spot = spotOf(backup, k);
                if (now.spoiled.at(spot) == 1 || now.broken.at(now.boxAt.at(spot)) == 1) {
                    return k;
                }
            }
            return NONE;
        }

        int countBoxesOf(int backup) {
            marks.fill(now.boxDay.size(), 0);
            for (int k = 0; k < now.backupCount.at(backup); k++) {
                marks.put(now.boxAt.at(spotOf(backup, k)), 1);
            }
            return marks.total();
        }

        // ---- acts

        void remember() {
            if (pastNext < 0 || pastNext >= past.length) {
                return;
            }
            if (past[pastNext] == null) {
                past[pastNext] = new State();
            }
            past[pastNext].copyFrom(now);
            pastNext = (pastNext + 1) % ACTS_MOST;
            undoable = Math.min(undoable + 1, ACTS_MOST);
        }

        boolean goBack() {
            int last = (pastNext + ACTS_MOST - 1) % ACTS_MOST;
            if (undoable == 0 || last < 0 || last >= past.length || past[last] == null) {
                return false;
            }
            State before = past[last];
            saver.untell(this, before.uses);
            usePiece.cutTo(before.uses);
            segmentFirst.cutTo(before.segments);
            becomes(before);
            pastNext = last;
            undoable--;
            return true;
        }

        void becomes(State next) {
            for (int spot = 0; spot < now.piece.size(); spot++) {
                pieceSpot.put(now.piece.at(spot), NONE);
            }
            now.copyFrom(next);
            for (int spot = 0; spot < now.piece.size(); spot++) {
                pieceSpot.put(now.piece.at(spot), spot);
            }
        }

        private int freeNumber() {
            return now.backupCount.indexOf(0);
        }

        boolean canSave() {
            int pieces = cutter.count();
            return freeNumber() != NONE && now.piece.size() + pieces <= STORED_MOST
                && forms.bytes.size() + cutter.file.size() <= ROW_MOST
                && pieceForm.size() + pieces <= ROW_MOST && usePiece.size() + pieces <= ROW_MOST;
        }

        int saveFile() {
            remember();
            int number = freeNumber();
            int stored = now.piece.size();
            int count = cutter.count();
            int step = Math.max(1, rules.number(SEGS));
            now.backupDay.put(number, now.day);
            now.backupFirst.put(number, usePiece.size());
            now.backupCount.put(number, count);
            for (int from = 0; from < count; from += step) {
                saver.saveSegment(this, from, Math.min(from + step, count));
            }
            now.uses = usePiece.size();
            now.segments = segmentFirst.size();
            int ring = now.saves % KEPT_RING;
            keptDay.put(ring, now.day);
            keptPieces.put(ring, count);
            keptWritten.put(ring, now.piece.size() - stored);
            now.saves++;
            return number;
        }

        int writePiece(int form) {
            int id = pieceForm.size();
            pieceForm.add(form);
            pieceSpot.add(now.piece.size());
            now.write(id, forms.length.at(form), 0, rules.number(BOX));
            return id;
        }

        /** How many backups expire. */
        int passDays(int n) {
            int gone = 0;
            for (int b = 0; b < BACKUPS_MOST; b++) {
                if (hasBackup(b) && isGone(b, n)) {
                    now.dropBackup(b);
                    gone++;
                }
            }
            now.day += n;
            return gone;
        }

        private int draw(int m) {
            seed = (int) ((1103515245L * seed + 12345L) & 0x7fffffffL);
            return m > 0 ? seed / 64 % m : 0;
        }

        /** Whether a box was drawn. */
        boolean rotBox() {
            int boxes = now.boxDay.size();
            if (draw(100) >= rules.number(ROT) || boxes == 0) {
                return false;
            }
            now.broken.put(draw(boxes), 1);
            return true;
        }

        // ---- cleaning

        boolean isForCleaning(int box) {
            markLive(0);
            return isMarkedForCleaning(box);
        }

        private boolean isMarkedForCleaning(int box) {
            int live = liveBytes(now.boxFirst.at(box), now.boxEnd(box));
            int dead = now.boxBytes.at(box) - live;
            return rules.isForCleaning(now.day, live, dead, now.day - now.boxDay.at(box));
        }

        /** What would be if it were cleaned now; how many boxes are cleaned. */
        int cleanInto(State to) {
            markLive(0);
            chosen.clear();
            to.emptyBoxes();
            to.copyRest(now);
            for (int box = 0; box < now.boxDay.size(); box++) {
                boolean cleaned = now.broken.at(box) == 0 && isMarkedForCleaning(box);
                chosen.add(cleaned ? 1 : 0);
                if (!cleaned) {
                    copyBox(box, to);
                }
            }
            for (int box = 0; box < chosen.size(); box++) {
                if (chosen.at(box) == 1) {
                    moveLive(box, to);
                }
            }
            return chosen.total();
        }

        private void copyBox(int box, State to) {
            to.openBox(now.boxDay.at(box), now.broken.at(box));
            for (int spot = now.boxFirst.at(box); spot < now.boxEnd(box); spot++) {
                to.append(now.piece.at(spot), lengthAt(spot), now.spoiled.at(spot));
            }
        }

        private void moveLive(int box, State to) {
            for (int spot = now.boxFirst.at(box); spot < now.boxEnd(box); spot++) {
                if (marks.at(spot) == 1) {
                    to.write(now.piece.at(spot), lengthAt(spot), now.spoiled.at(spot), rules.number(BOX));
                }
            }
        }
    }

    /** Saves a segment, and keeps what the index told ahead of each use, so that a save can be undone. */
    private static final class Saver {
        private static final int UNTOUCHED = -2;

        private final Row toldBefore = new Row();
        private final Row segmentForms = new Row();
        private final Row isHook = new Row();
        private final Row hookForms = new Row();
        private final Row hookSegments = new Row();
        private final Row champions = new Row();

        void saveSegment(Vault vault, int from, int to) {
            int segment = vault.segmentFirst.size();
            int first = vault.usePiece.size();
            readPieces(vault, from, to);
            readHooks(vault.forms);
            findChampions(vault.rules.number(CHAMPS));
            vault.segmentFirst.add(first);
            for (int i = 0; i < segmentForms.size(); i++) {
                int had = pieceHad(vault, segmentForms.at(i), first);
                vault.usePiece.add(had != NONE ? had : vault.writePiece(segmentForms.at(i)));
                toldBefore.add(UNTOUCHED);
            }
            tellHooks(vault, segment, first);
        }

        private void readPieces(Vault vault, int from, int to) {
            segmentForms.clear();
            isHook.clear();
            Cutter cutter = vault.cutter;
            for (int k = from; k < to; k++) {
                int form = vault.forms.findOrAdd(cutter.file, cutter.firstOf(k), cutter.lengthOf(k));
                int print = vault.forms.print.at(form);
                segmentForms.add(form);
                isHook.add(vault.rules.isHook(vault.now.day, print, cutter.lengthOf(k), k) ? 1 : 0);
            }
        }

        private void readHooks(Forms forms) {
            hookForms.clear();
            hookSegments.clear();
            for (int i = 0; i < segmentForms.size(); i++) {
                int form = segmentForms.at(i);
                if (isHook.at(i) == 1 && hookForms.indexOf(form) == NONE) {
                    hookForms.add(form);
                    hookSegments.add(forms.told.at(form));
                }
            }
        }

        private void findChampions(int most) {
            champions.clear();
            for (int i = 0; i < most; i++) {
                int champion = nextChampion();
                if (champion == NONE) {
                    return;
                }
                champions.add(champion);
            }
        }

        private int nextChampion() {
            int best = NONE;
            int bestHooks = 0;
            for (int i = 0; i < hookSegments.size(); i++) {
                int segment = hookSegments.at(i);
                if (segment != NONE && champions.indexOf(segment) == NONE) {
                    int hooks = countHooks(segment);
                    if (hooks > bestHooks || hooks == bestHooks && segment > best) {
                        best = segment;
                        bestHooks = hooks;
                    }
                }
            }
            return best;
        }

        private int countHooks(int segment) {
            int count = 0;
            for (int i = 0; i < hookSegments.size(); i++) {
                count += hookSegments.at(i) == segment ? 1 : 0;
            }
            return count;
        }

        private int pieceHad(Vault vault, int form, int first) {
            for (int i = 0; i < champions.size(); i++) {
                int segment = champions.at(i);
                // The segment that is being saved stands behind every champion already.
                int end = vault.segmentFirst.at(segment + 1);
                int had = pieceAmong(vault, form, vault.segmentFirst.at(segment), end);
                if (had != NONE) {
                    return had;
                }
            }
            return pieceAmong(vault, form, first, vault.usePiece.size());
        }

        /** A stored piece that is no more has no spot: it is passed over. */
        private static int pieceAmong(Vault vault, int form, int from, int to) {
            for (int use = from; use < to; use++) {
                int id = vault.usePiece.at(use);
                if (vault.pieceForm.at(id) == form && vault.pieceSpot.at(id) != NONE) {
                    return id;
                }
            }
            return NONE;
        }

        private void tellHooks(Vault vault, int segment, int first) {
            Row told = vault.forms.told;
            for (int i = 0; i < segmentForms.size(); i++) {
                int form = segmentForms.at(i);
                if (isHook.at(i) == 1 && told.at(form) != segment) {
                    vault.now.hooks += told.at(form) == NONE ? 1 : 0;
                    toldBefore.put(first + i, told.at(form));
                    told.put(form, segment);
                }
            }
        }

        /** The index tells again what it told when there were so many uses. */
        void untell(Vault vault, int uses) {
            for (int use = toldBefore.size() - 1; use >= uses; use--) {
                if (toldBefore.at(use) != UNTOUCHED) {
                    vault.forms.told.put(vault.pieceForm.at(vault.usePiece.at(use)), toldBefore.at(use));
                }
            }
            toldBefore.cutTo(uses);
        }
    }

    /** Counts the boxes that are fetched for a backup. */
    private static final class Desk {
        private final Row visits = new Row();
        private final Row boxes = new Row();
        private final Row used = new Row();

        void visit(Vault vault, int backup) {
            visits.clear();
            for (int k = 0; k < vault.now.backupCount.at(backup); k++) {
                visits.add(vault.now.boxAt.at(vault.spotOf(backup, k)));
            }
        }

        int count(int places, int plan) {
            boxes.clear();
            used.clear();
            int fetched = 0;
            for (int i = 0; i < visits.size(); i++) {
                int place = boxes.indexOf(visits.at(i));
                if (place == NONE) {
                    fetched++;
                    place = boxes.size() < places ? freePlace() : placeToClear(plan, i);
                    boxes.put(place, visits.at(i));
                }
                used.put(place, i);
            }
            return fetched;
        }

        private int freePlace() {
            boxes.add(NONE);
            used.add(NONE);
            return boxes.size() - 1;
        }

        private int placeToClear(int plan, int at) {
            int best = 0;
            for (int place = 1; place < boxes.size(); place++) {
                boolean better = plan == 0 ? used.at(place) < used.at(best) : isLater(place, best, at);
                best = better ? place : best;
            }
            return best;
        }

        private boolean isLater(int place, int than, int at) {
            int next = nextVisit(boxes.at(place), at);
            int thanNext = nextVisit(boxes.at(than), at);
            return next > thanNext || next == thanNext && boxes.at(place) < boxes.at(than);
        }

        private int nextVisit(int box, int from) {
            for (int i = from; i < visits.size(); i++) {
                if (visits.at(i) == box) {
                    return i;
                }
            }
            return visits.size();
        }
    }

    /** Windows by lengths that were met. */
    private static final class Scope {
        private final Row met = new Row();
        private final Row lengths = new Row();
        private final Row counts = new Row();

        boolean meetRows(Row tape) {
            if (tape.size() < 2 || tape.size() > 2 * MET_MOST || tape.size() % 2 != 0) {
                return false;
            }
            for (int i = 0; i < tape.size(); i += 2) {
                if (tape.at(i) >= TOLD_PIECES || tape.at(i + 1) > LENGTH_MOST) {
                    return false;
                }
            }
            met.copyFrom(tape);
            return true;
        }

        int windowsLeft(Vault vault, int backup) {
            vault.layOut(backup);
            lengths.clear();
            int left = 0;
            for (int window = 1; window <= WINDOW_MOST; window++) {
                vault.cutter.cut(vault.rules, window, vault.now.day);
                for (int k = 0; k < TOLD_PIECES; k++) {
                    lengths.add(vault.cutter.lengthOf(k));
                }
                left |= isMet(window) ? 1 << window : 0;
            }
            return left;
        }

        private int lengthBy(int window, int k) {
            return lengths.at((window - 1) * TOLD_PIECES + k);
        }

        private boolean isMet(int window) {
            for (int i = 0; i < met.size(); i += 2) {
                if (lengthBy(window, met.at(i)) != met.at(i + 1)) {
                    return false;
                }
            }
            return true;
        }

        int telling(int left) {
            int best = 0;
            int fewest = worstBy(0, left);
            for (int k = 1; k < TOLD_PIECES; k++) {
                int worst = worstBy(k, left);
                if (worst < fewest) {
                    best = k;
                    fewest = worst;
                }
            }
            return best;
        }

        /** The most windows that are left by a length of the k-th piece. */
        int worstBy(int k, int left) {
            counts.fill(LENGTH_MOST + 1, 0);
            int worst = 0;
            for (int window = 1; window <= WINDOW_MOST; window++) {
                if ((left & 1 << window) != 0) {
                    int length = lengthBy(window, k);
                    counts.put(length, counts.at(length) + 1);
                    worst = Math.max(worst, counts.at(length));
                }
            }
            return worst;
        }
    }
}
