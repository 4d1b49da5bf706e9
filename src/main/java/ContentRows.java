import java.util.Arrays;

/**
 * Words found by content: a table of slots, each with a row of signs 0, 1 or any, kept in step with a
 * list of rules by the fewest moves of rows. The words in capitals are those of the document.
 */
public final class ContentRows {
    public static final int BAD = -1, NO = -2, FULL = -3, NONE = -4;

    private static final int SLOTS = 16;
    private static final int SLOTS_A_BLOCK = 4;
    private static final int KEYS = 128;
    private static final int TAILS = 16;
    private static final int SIGNS = 7;
    private static final int HEAD_BITS = 0x70;
    private static final int HIGHEST_HEAD = 222;
    private static final int ANY = 2;
    private static final int RANKS = 100;
    private static final int ANSWERS = 10;
    /** Each RULE has a ROW at least, so there are never more RULES than SLOTS. */
    private static final int RULES = SLOTS;
    private static final int ROWS_A_RULE = 6;
    private static final int MOVES_A_ROW = 3;
    private static final int UNDOS = 5;
    private static final int LETTERS = 200;
    private static final int FIRST_LETTER = 32;
    private static final int LAST_LETTER = 126;
    /** The place, behind the SLOTS, of the ROW that is still to come in: it never FITS a KEY there. */
    private static final int WAITING = SLOTS;
    private static final String FIRST_TEXT = "10,1*0,3-12,1;20,***,0-7,2;5,01*,6-6,3;30,1**,8-15,4;";

    private final Text text = new Text();
    private final RuleReader reader = new RuleReader();
    private final Board board = new Board();
    /** Where changes are tried before they are made, so that a refused one leaves no trace. */
    private final Board trial = new Board();
    private final MoveLog made = new MoveLog();
    private final MoveLog tried = new MoveLog();
    private final Past past = new Past();

    public ContentRows() {
        for (int i = 0; i < FIRST_TEXT.length(); i++) {
            text.append(FIRST_TEXT.charAt(i));
        }
        layText();
        text.length = 0;
    }

    // ---- told

    public int write(int letter) {
        if (letter < FIRST_LETTER || letter > LAST_LETTER) {
            return BAD;
        }
        return text.append(letter) ? text.length : FULL;
    }

    public int wipe() {
        int length = text.length;
        text.length = 0;
        return length;
    }

    public int fault() {
        return readText();
    }

    public int lay() {
        return layText();
    }

    // ---- rules

    public int add(int rank, int head, int from, int to, int answer) {
        int moves = tryRule(rank, head, from, to, answer);
        if (moves < 0) {
            return moves;
        }
        past.keep(board);
        board.copyFrom(trial);
        made.copyFrom(tried);
        return moves;
    }

    public int drop(int r) {
        if (!isRule(r)) {
            return BAD;
        }
        past.keep(board);
        board.removeRule(r);
        return board.rules.size;
    }

    public int purge() {
        int covered = board.rules.coveredRules();
        if (covered == 0) {
            return 0;
        }
        past.keep(board);
        // From the last number down: a RULE that goes changes the numbers behind it alone, and what is
        // COVERED stays so, since a COVERED RULE has no KEY that a lower RANK does not have as well.
        for (int r = board.rules.size - 1; r >= 0; r--) {
            if (board.rules.isCovered(r)) {
                board.removeRule(r);
            }
        }
        return covered;
    }

    public int pack() {
        trial.copyFrom(board);
        trial.packRows();
        int moves = trial.table.rowsNotAsIn(board.table);
        if (moves > 0) {
            past.keep(board);
            board.copyFrom(trial);
        }
        return moves;
    }

    public int move(int from, int to) {
        if (!isSlot(from) || !isSlot(to)) {
            return BAD;
        }
        Table table = board.table;
        if (table.isEmpty(from) || !table.isOpen(from, to)) {
            return NO;
        }
        past.keep(board);
        table.shift(from, to);
        return table.rowsBetween(from, to);
    }

    public int undo() {
        if (past.size == 0) {
            return NO;
        }
        past.giveBack(board);
        return past.size;
    }

    public int rule(int r, int what) {
        if (!isRule(r)) {
            return BAD;
        }
        RuleList rules = board.rules;
        switch (what) {
            case 0: return rules.ranks[r];
            case 1: return rules.heads[r];
            case 2: return rules.firsts[r];
            case 3: return rules.lasts[r];
            case 4: return rules.answers[r];
            case 5: return rules.rowsOf(r);
            case 6: return rules.keysHadBy(r);
            case 7: return rules.keysAnsweredBy(r);
            case 8: return rules.isCovered(r) ? 1 : 0;
            case 9: return rules.isIdle(r) ? 1 : 0;
            default: return BAD;
        }
    }

    public int would(int rank, int head, int from, int to) {
        return tryRule(rank, head, from, to, 0);
    }

    public int moved(int i, int what) {
        if (i < -1 || what < 0 || what > 1) {
            return BAD;
        }
        if (i == -1) {
            return made.size;
        }
        if (i >= made.size) {
            return NONE;
        }
        return what == 0 ? made.from[i] : made.to[i];
    }

    // ---- the table

    public int slot(int s, int what) {
        if (!isSlot(s) || what < 0 || what > 3) {
            return BAD;
        }
        if (board.table.isEmpty(s)) {
            return NONE;
        }
        switch (what) {
            case 0: return board.ruleOf(s);
            case 1: return board.table.pieces[s];
            case 2: return board.table.signsOf(s);
            default: return board.table.keysAnsweredBy(s);
        }
    }

    public int reach(int s, int which) {
        if (!isSlot(s) || which < 0 || which > 2) {
            return BAD;
        }
        if (board.table.isEmpty(s)) {
            return NO;
        }
        switch (which) {
            case 0: return board.table.lowestOpen(s);
            case 1: return board.table.highestOpen(s);
            default: return board.table.openSlots(s);
        }
    }

    public int meet(int a, int b) {
        if (!isSlot(a) || !isSlot(b) || a == b) {
            return BAD;
        }
        if (board.table.isEmpty(a) || board.table.isEmpty(b)) {
            return NO;
        }
        return board.table.meets(a, b) ? 1 : 0;
    }

    public int join(int a, int b) {
        if (!isSlot(a) || !isSlot(b) || a == b) {
            return BAD;
        }
        if (board.table.isEmpty(a) || board.table.isEmpty(b)) {
            return NO;
        }
        int sign = board.table.onlySignUnlike(a, b);
        if (sign == 0 || board.answerOf(a) != board.answerOf(b)) {
            return 0;
        }
        int lower = Math.min(a, b);
        int higher = Math.max(a, b);
        if (isSameJoined(lower, higher, sign)) {
            return 2;
        }
        return isSameJoined(higher, lower, sign) ? 1 : 0;
    }

    // ---- keys

    public int key(int k, int what) {
        if (k < 0 || k >= KEYS) {
            return BAD;
        }
        switch (what) {
            case 0: return board.answerOf(board.table.answeringSlot(k));
            case 1: return board.rules.answerOf(board.rules.answeringRule(k));
            case 2: return board.table.answeringSlot(k);
            case 3: return board.ruleOf(board.table.answeringSlot(k));
            case 4: return board.table.rowsThatFit(k);
            case 5: return board.rules.rulesThatHave(k);
            case 6: return board.table.blocksOn(k);
            default: return BAD;
        }
    }

    public int keys(int what) {
        switch (what) {
            case 0: return board.keysWithoutAnswer();
            case 1: return board.keysAnsweredOtherwise();
            case 2: return board.table.allBlocksOn();
            case 3: return board.table.mostBlocksOn();
            case 4: return board.rules.size - board.rules.coveredRules();
            default: return BAD;
        }
    }

    public int count(int what) {
        switch (what) {
            case 0: return board.rules.size;
            case 1: return board.table.rows();
            case 2: return SLOTS - board.table.rows();
            case 3: return board.rules.coveredRules();
            case 4: return board.rules.idleRules();
            case 5: return past.size;
            case 6: return text.length;
            case 7: return board.table.pairsThatMeet();
            case 8: return board.table.differentRows();
            default: return BAD;
        }
    }

    // ---- what the calls share

    private boolean isRule(int r) {
        return r >= 0 && r < board.rules.size;
    }

    private static boolean isSlot(int s) {
        return s >= 0 && s < SLOTS;
    }

    private static boolean isHead(int head) {
        return head >= 0 && head <= HIGHEST_HEAD && head / 10 % 10 <= ANY && head % 10 <= ANY;
    }

    private static boolean isSpan(int from, int to) {
        return from >= 0 && from <= to && to < TAILS;
    }

    /** Reads THE TEXT into the RULES of trial: FAULT, or NONE. */
    private int readText() {
        RuleList rules = trial.rules;
        rules.size = 0;
        int at = 0;
        // A RULE has twelve letters at least, so behind RULES of them none can be whole any more.
        for (int n = 0; n <= RULES && at < text.length; n++) {
            if (!reader.reads(text, at) || rules.numberOf(reader.rank) >= 0 || rules.size >= RULES) {
                return at;
            }
            rules.append(reader.rank, reader.head, reader.first, reader.last, reader.answer);
            at = reader.at;
        }
        return NONE;
    }

    private int layText() {
        if (readText() != NONE || trial.rules.allRows() > SLOTS) {
            return NO;
        }
        trial.packRows();
        board.copyFrom(trial);
        past.size = 0;
        made.size = 0;
        return board.rules.size;
    }

    /** Lets a RULE come in on trial, the MOVES in tried: how many, or BAD, NO, FULL. */
    private int tryRule(int rank, int head, int from, int to, int answer) {
        if (rank < 0 || rank >= RANKS || !isHead(head) || !isSpan(from, to) || answer < 0 || answer >= ANSWERS) {
            return BAD;
        }
        if (board.rules.numberOf(rank) >= 0) {
            return NO;
        }
        if (board.table.rows() + rowsOfSpan(from, to) > SLOTS) {
            return FULL;
        }
        trial.copyFrom(board);
        tried.size = 0;
        trial.rules.append(rank, head, from, to, answer);
        int r = trial.rules.size - 1;
        int tail = from;
        for (int piece = 0; piece < ROWS_A_RULE && tail <= to; piece++) {
            trial.putRow(WAITING, r, piece, tail);
            if (!letComeIn(trial.table, tried)) {
                return FULL;
            }
            tail += pieceSize(tail, to);
        }
        return tried.size;
    }

    private static boolean letComeIn(Table table, MoveLog log) {
        for (int moves = 0; moves <= MOVES_A_ROW; moves++) {
            if (comesInBy(table, log, moves)) {
                return true;
            }
        }
        return false;
    }

    /** Lets the waiting ROW come in behind the first such MOVES, just so many; else all is as it was. */
    private static boolean comesInBy(Table table, MoveLog log, int moves) {
        if (moves <= 0) {
            int s = table.lowestOpen(WAITING);
            if (s >= 0) {
                table.shift(WAITING, s);
            }
            return s >= 0;
        }
        int low = 0;
        int high = SLOTS - 1;
        if (moves == 1) {
            // The last MOVE helps only if it widens the bounds of the waiting ROW or makes room between.
            int floor = table.floorOf(WAITING);
            int ceiling = table.ceilingOf(WAITING);
            low = Math.max(low, Math.min(floor, ceiling));
            high = Math.min(high, Math.max(floor, ceiling));
        }
        for (int from = low; from <= high; from++) {
            if (!table.isEmpty(from) && comesInBehindMoveOf(from, table, log, moves)) {
                return true;
            }
        }
        return false;
    }

    private static boolean comesInBehindMoveOf(int from, Table table, MoveLog log, int moves) {
        int ceiling = table.ceilingOf(from);
        for (int to = table.floorOf(from) + 1; to < ceiling; to++) {
            if (!table.isEmpty(to)) {
                continue;
            }
            table.shift(from, to);
            log.append(from, to);
            if (comesInBy(table, log, moves - 1)) {
                return true;
            }
            log.removeLast();
            table.shift(to, from);
        }
        return false;
    }

    /** Whether each KEY has the same ANSWER with the ROW of one SLOT without a sign and the other empty. */
    private boolean isSameJoined(int kept, int emptied, int sign) {
        trial.copyFrom(board);
        trial.table.loosen(kept, sign);
        trial.table.clear(emptied);
        for (int k = 0; k < KEYS; k++) {
            int before = board.answerOf(board.table.answeringSlot(k));
            if (trial.answerOf(trial.table.answeringSlot(k)) != before) {
                return false;
            }
        }
        return true;
    }

    /** How many TAILS the first piece of a SPAN has. */
    private static int pieceSize(int from, int to) {
        for (int size = TAILS; size > 1; size /= 2) {
            if (from % size == 0 && from + size - 1 <= to) {
                return size;
            }
        }
        return 1;
    }

    private static int rowsOfSpan(int from, int to) {
        int rows = 0;
        for (int tail = from; tail <= to && rows < ROWS_A_RULE; tail += pieceSize(tail, to)) {
            rows++;
        }
        return rows;
    }

    /** THE TEXT. */
    private static final class Text {
        final int[] letters = new int[LETTERS];
        int length = 0;

        boolean append(int letter) {
            if (length >= LETTERS) {
                return false;
            }
            letters[length] = letter;
            length++;
            return true;
        }

        /** The letter at a place, NONE behind the last one. */
        int letterAt(int place) {
            return place >= 0 && place < length ? letters[place] : NONE;
        }
    }

    /** Reads one RULE of a TEXT. */
    private static final class RuleReader {
        /** The place behind what has been read. */
        int at = 0;
        int rank = 0;
        int head = 0;
        int first = 0;
        int last = 0;
        int answer = 0;

        /** Whether a RULE begins at a place (its RANK may be told already). */
        boolean reads(Text text, int place) {
            at = place;
            rank = number(text);
            if (rank < 0 || !passes(text, ',')) {
                return false;
            }
            head = signs(text);
            if (head < 0 || !passes(text, ',')) {
                return false;
            }
            first = number(text);
            if (first < 0 || !passes(text, '-')) {
                return false;
            }
            last = number(text);
            if (!isSpan(first, last) || !passes(text, ',')) {
                return false;
            }
            answer = figure(text);
            return answer >= 0 && passes(text, ';');
        }

        private boolean passes(Text text, char letter) {
            if (text.letterAt(at) != letter) {
                return false;
            }
            at++;
            return true;
        }

        private int figure(Text text) {
            int letter = text.letterAt(at);
            if (letter < '0' || letter > '9') {
                return NONE;
            }
            at++;
            return letter - '0';
        }

        /** One or two figures. */
        private int number(Text text) {
            int high = figure(text);
            if (high < 0) {
                return NONE;
            }
            int low = figure(text);
            return low < 0 ? high : high * 10 + low;
        }

        /** Three signs, as figures. */
        private int signs(Text text) {
            int head = 0;
            for (int i = 0; i < 3; i++) {
                int sign = sign(text.letterAt(at));
                if (sign < 0) {
                    return NONE;
                }
                head = head * 10 + sign;
                at++;
            }
            return head;
        }

        private static int sign(int letter) {
            switch (letter) {
                case '0': return 0;
                case '1': return 1;
                case '*': return ANY;
                default: return NONE;
            }
        }
    }

    /** THE LIST of RULES, each at its number. */
    private static final class RuleList {
        int size = 0;
        final int[] ranks = new int[RULES];
        final int[] heads = new int[RULES];
        /** The bits of the HEAD that are not any, and those that are 1. */
        final int[] headCares = new int[RULES];
        final int[] headValues = new int[RULES];
        final int[] firsts = new int[RULES];
        final int[] lasts = new int[RULES];
        final int[] answers = new int[RULES];

        void copyFrom(RuleList other) {
            size = other.size;
            System.arraycopy(other.ranks, 0, ranks, 0, RULES);
            System.arraycopy(other.heads, 0, heads, 0, RULES);
            System.arraycopy(other.headCares, 0, headCares, 0, RULES);
            System.arraycopy(other.headValues, 0, headValues, 0, RULES);
            System.arraycopy(other.firsts, 0, firsts, 0, RULES);
            System.arraycopy(other.lasts, 0, lasts, 0, RULES);
            System.arraycopy(other.answers, 0, answers, 0, RULES);
        }

        void append(int rank, int head, int first, int last, int answer) {
            if (size >= RULES) {
                return;
            }
            ranks[size] = rank;
            heads[size] = head;
            headCares[size] = headBits(head, 0) + headBits(head, 1);
            headValues[size] = headBits(head, 1);
            firsts[size] = first;
            lasts[size] = last;
            answers[size] = answer;
            size++;
        }

        void remove(int r) {
            if (r < 0 || r >= size) {
                return;
            }
            for (int i = r; i + 1 < size; i++) {
                ranks[i] = ranks[i + 1];
                heads[i] = heads[i + 1];
                headCares[i] = headCares[i + 1];
                headValues[i] = headValues[i + 1];
                firsts[i] = firsts[i + 1];
                lasts[i] = lasts[i + 1];
                answers[i] = answers[i + 1];
            }
            size--;
        }

        /** The RULE of a RANK, NONE if there is none. */
        int numberOf(int rank) {
            for (int r = 0; r < size; r++) {
                if (ranks[r] == rank) {
                    return r;
                }
            }
            return NONE;
        }

        /** NONE for no RULE. */
        int answerOf(int r) {
            return r >= 0 && r < size ? answers[r] : NONE;
        }

        /** The bits of a HEAD with a sign. */
        private static int headBits(int head, int sign) {
            int high = head / 100 == sign ? 4 : 0;
            int middle = head / 10 % 10 == sign ? 2 : 0;
            return high + middle + (head % 10 == sign ? 1 : 0);
        }

        boolean has(int r, int k) {
            int tail = k % TAILS;
            if (tail < firsts[r] || tail > lasts[r]) {
                return false;
            }
            return ((k / TAILS ^ headValues[r]) & headCares[r]) == 0;
        }

        /** The RULE by which THE LIST ANSWERS a KEY, or NONE. */
        int answeringRule(int k) {
            return answeringRuleBut(NONE, k);
        }

        /** As if the RULE left out were not there. */
        int answeringRuleBut(int leftOut, int k) {
            int found = NONE;
            for (int r = 0; r < size; r++) {
                if (r != leftOut && (found < 0 || ranks[r] < ranks[found]) && has(r, k)) {
                    found = r;
                }
            }
            return found;
        }

        int rowsOf(int r) {
            return rowsOfSpan(firsts[r], lasts[r]);
        }

        int allRows() {
            int rows = 0;
            for (int r = 0; r < size; r++) {
                rows += rowsOf(r);
            }
            return rows;
        }

        int rulesThatHave(int k) {
            int rules = 0;
            for (int r = 0; r < size; r++) {
                rules += has(r, k) ? 1 : 0;
            }
            return rules;
        }

        int keysHadBy(int r) {
            int keys = 0;
            for (int k = 0; k < KEYS; k++) {
                keys += has(r, k) ? 1 : 0;
            }
            return keys;
        }

        int keysAnsweredBy(int r) {
            int keys = 0;
            for (int k = 0; k < KEYS; k++) {
                keys += has(r, k) && answeringRule(k) == r ? 1 : 0;
            }
            return keys;
        }

        boolean isCovered(int r) {
            for (int k = 0; k < KEYS; k++) {
                if (has(r, k) && answeringRule(k) == r) {
                    return false;
                }
            }
            return true;
        }

        boolean isIdle(int r) {
            for (int k = 0; k < KEYS; k++) {
                if (has(r, k) && answerOf(answeringRule(k)) != answerOf(answeringRuleBut(r, k))) {
                    return false;
                }
            }
            return true;
        }

        int coveredRules() {
            int covered = 0;
            for (int r = 0; r < size; r++) {
                covered += isCovered(r) ? 1 : 0;
            }
            return covered;
        }

        int idleRules() {
            int idle = 0;
            for (int r = 0; r < size; r++) {
                idle += isIdle(r) ? 1 : 0;
            }
            return idle;
        }
    }

    /** THE TABLE, and the place of the ROW that is still to come in. It is IN ORDER between all calls. */
    private static final class Table {
        /** The RANK tells of which RULE a ROW is (its number may change); NONE: the place is empty. */
        final int[] ranks = new int[SLOTS + 1];
        final int[] pieces = new int[SLOTS + 1];
        /** The bits that are not any. */
        final int[] cares = new int[SLOTS + 1];
        /** The bits that are 1; never one that is any, so that like ROWS have like values. */
        final int[] values = new int[SLOTS + 1];

        Table() {
            clearAll();
        }

        void clearAll() {
            Arrays.fill(ranks, NONE);
        }

        void copyFrom(Table other) {
            System.arraycopy(other.ranks, 0, ranks, 0, SLOTS + 1);
            System.arraycopy(other.pieces, 0, pieces, 0, SLOTS + 1);
            System.arraycopy(other.cares, 0, cares, 0, SLOTS + 1);
            System.arraycopy(other.values, 0, values, 0, SLOTS + 1);
        }

        boolean isEmpty(int place) {
            return ranks[place] == NONE;
        }

        void clear(int place) {
            ranks[place] = NONE;
        }

        void clearRank(int rank) {
            for (int s = 0; s < SLOTS; s++) {
                if (ranks[s] == rank) {
                    clear(s);
                }
            }
        }

        void put(int place, int rank, int piece, int care, int value) {
            ranks[place] = rank;
            pieces[place] = piece;
            cares[place] = care;
            values[place] = value & care;
        }

        void shift(int from, int to) {
            put(to, ranks[from], pieces[from], cares[from], values[from]);
            clear(from);
        }

        /** Makes a sign, told by its bit, any. */
        void loosen(int place, int sign) {
            cares[place] &= ~sign;
            values[place] &= ~sign;
        }

        boolean fits(int s, int k) {
            return !isEmpty(s) && ((k ^ values[s]) & cares[s]) == 0;
        }

        boolean meets(int a, int b) {
            return ((values[a] ^ values[b]) & cares[a] & cares[b]) == 0;
        }

        /** The bit by which two ROWS are unlike, if it is the only one and any in neither; 0 else. */
        int onlySignUnlike(int a, int b) {
            int unlike = values[a] ^ values[b];
            return cares[a] == cares[b] && Integer.bitCount(unlike) == 1 ? unlike : 0;
        }

        /** The highest SLOT that must stay below the ROW of a place, -1 if there is none. */
        int floorOf(int place) {
            for (int s = SLOTS - 1; s >= 0; s--) {
                if (!isEmpty(s) && ranks[s] < ranks[place] && meets(s, place)) {
                    return s;
                }
            }
            return -1;
        }

        /** The lowest SLOT that must stay above the ROW of a place, SLOTS if there is none. */
        int ceilingOf(int place) {
            for (int s = 0; s < SLOTS; s++) {
                if (!isEmpty(s) && ranks[s] > ranks[place] && meets(s, place)) {
                    return s;
                }
            }
            return SLOTS;
        }

        /** Whether the ROW of a place could go into a SLOT: the others stay IN ORDER, so its bounds tell. */
        boolean isOpen(int place, int s) {
            return isEmpty(s) && s > floorOf(place) && s < ceilingOf(place);
        }

        int lowestOpen(int place) {
            int ceiling = ceilingOf(place);
            for (int s = floorOf(place) + 1; s < ceiling; s++) {
                if (isEmpty(s)) {
                    return s;
                }
            }
            return NONE;
        }

        int highestOpen(int place) {
            int floor = floorOf(place);
            for (int s = ceilingOf(place) - 1; s > floor; s--) {
                if (isEmpty(s)) {
                    return s;
                }
            }
            return NONE;
        }

        int openSlots(int place) {
            int ceiling = ceilingOf(place);
            int open = 0;
            for (int s = floorOf(place) + 1; s < ceiling; s++) {
                open += isEmpty(s) ? 1 : 0;
            }
            return open;
        }

        int rows() {
            return rowsBetween(-1, SLOTS);
        }

        int rowsBetween(int a, int b) {
            int end = Math.min(Math.max(a, b), SLOTS);
            int rows = 0;
            for (int s = Math.max(Math.min(a, b) + 1, 0); s < end; s++) {
                rows += isEmpty(s) ? 0 : 1;
            }
            return rows;
        }

        int rowsNotAsIn(Table other) {
            int rows = 0;
            for (int s = 0; s < SLOTS; s++) {
                boolean isSame = ranks[s] == other.ranks[s] && pieces[s] == other.pieces[s];
                rows += isEmpty(s) || isSame ? 0 : 1;
            }
            return rows;
        }

        /** The seven signs, as figures. */
        int signsOf(int s) {
            int signs = 0;
            for (int bit = 1 << (SIGNS - 1); bit > 0; bit /= 2) {
                int figure = (values[s] & bit) != 0 ? 1 : 0;
                signs = signs * 10 + ((cares[s] & bit) != 0 ? figure : ANY);
            }
            return signs;
        }

        /** The SLOT by which THE TABLE ANSWERS a KEY, or NONE. */
        int answeringSlot(int k) {
            for (int s = 0; s < SLOTS; s++) {
                if (fits(s, k)) {
                    return s;
                }
            }
            return NONE;
        }

        int keysAnsweredBy(int s) {
            int keys = 0;
            for (int k = 0; k < KEYS; k++) {
                keys += answeringSlot(k) == s ? 1 : 0;
            }
            return keys;
        }

        int rowsThatFit(int k) {
            int rows = 0;
            for (int s = 0; s < SLOTS; s++) {
                rows += fits(s, k) ? 1 : 0;
            }
            return rows;
        }

        /** A bit for each BLOCK. */
        int blocksOn(int k) {
            int blocks = 0;
            for (int s = 0; s < SLOTS; s++) {
                if (!isEmpty(s) && ((k ^ values[s]) & cares[s] & HEAD_BITS) == 0) {
                    blocks |= 1 << (s / SLOTS_A_BLOCK);
                }
            }
            return blocks;
        }

        int allBlocksOn() {
            int all = 0;
            for (int k = 0; k < KEYS; k++) {
                all += Integer.bitCount(blocksOn(k));
            }
            return all;
        }

        int mostBlocksOn() {
            int most = 0;
            for (int k = 0; k < KEYS; k++) {
                most = Math.max(most, Integer.bitCount(blocksOn(k)));
            }
            return most;
        }

        /** Pairs of ROWS of unlike RULES. */
        int pairsThatMeet() {
            int pairs = 0;
            for (int a = 0; a < SLOTS; a++) {
                for (int b = a + 1; b < SLOTS; b++) {
                    boolean areTwo = !isEmpty(a) && !isEmpty(b) && ranks[a] != ranks[b];
                    pairs += areTwo && meets(a, b) ? 1 : 0;
                }
            }
            return pairs;
        }

        int differentRows() {
            int different = 0;
            for (int s = 0; s < SLOTS; s++) {
                different += !isEmpty(s) && !isBelow(s) ? 1 : 0;
            }
            return different;
        }

        /** Whether a lower SLOT has a ROW of the same signs. */
        private boolean isBelow(int s) {
            for (int lower = 0; lower < s; lower++) {
                if (!isEmpty(lower) && cares[lower] == cares[s] && values[lower] == values[s]) {
                    return true;
                }
            }
            return false;
        }
    }

    /** THE LIST and THE TABLE: what a change changes. */
    private static final class Board {
        final RuleList rules = new RuleList();
        final Table table = new Table();

        void copyFrom(Board other) {
            rules.copyFrom(other.rules);
            table.copyFrom(other.table);
        }

        void removeRule(int r) {
            if (r < 0 || r >= rules.size) {
                return;
            }
            table.clearRank(rules.ranks[r]);
            rules.remove(r);
        }

        /** Puts the ROW of a RULE whose piece begins with a TAIL into a place. */
        void putRow(int place, int r, int piece, int tail) {
            int tailCare = TAILS - pieceSize(tail, rules.lasts[r]);
            int care = rules.headCares[r] * TAILS + tailCare;
            table.put(place, rules.ranks[r], piece, care, rules.headValues[r] * TAILS + tail);
        }

        void packRows() {
            table.clearAll();
            int place = 0;
            for (int rank = 0; rank < RANKS; rank++) {
                int r = rules.numberOf(rank);
                if (r >= 0) {
                    place = packRowsOf(r, place);
                }
            }
        }

        /** Puts the ROWS of a RULE from a place on: the place behind them. */
        private int packRowsOf(int r, int place) {
            int tail = rules.firsts[r];
            int piece = 0;
            for (; tail <= rules.lasts[r] && place + piece < SLOTS; piece++) {
                putRow(place + piece, r, piece, tail);
                tail += pieceSize(tail, rules.lasts[r]);
            }
            return place + piece;
        }

        /** The RULE of the ROW of a SLOT; NONE for no SLOT or an empty one. */
        int ruleOf(int s) {
            return isSlot(s) && !table.isEmpty(s) ? rules.numberOf(table.ranks[s]) : NONE;
        }

        int answerOf(int s) {
            return rules.answerOf(ruleOf(s));
        }

        int keysWithoutAnswer() {
            int keys = 0;
            for (int k = 0; k < KEYS; k++) {
                keys += table.answeringSlot(k) < 0 ? 1 : 0;
            }
            return keys;
        }

        int keysAnsweredOtherwise() {
            int keys = 0;
            for (int k = 0; k < KEYS; k++) {
                keys += ruleOf(table.answeringSlot(k)) == rules.answeringRule(k) ? 0 : 1;
            }
            return keys;
        }
    }

    /** The MOVES of one RULE that came in. */
    private static final class MoveLog {
        final int[] from = new int[ROWS_A_RULE * MOVES_A_ROW];
        final int[] to = new int[ROWS_A_RULE * MOVES_A_ROW];
        int size = 0;

        void copyFrom(MoveLog other) {
            size = other.size;
            System.arraycopy(other.from, 0, from, 0, from.length);
            System.arraycopy(other.to, 0, to, 0, to.length);
        }

        void append(int fromSlot, int toSlot) {
            if (size >= from.length) {
                return;
            }
            from[size] = fromSlot;
            to[size] = toSlot;
            size++;
        }

        void removeLast() {
            size = Math.max(size - 1, 0);
        }
    }

    /** The boards before the last changes, in a ring. */
    private static final class Past {
        private final Board[] boards = new Board[UNDOS];
        private int next = 0;
        int size = 0;

        Past() {
            for (int i = 0; i < UNDOS; i++) {
                boards[i] = new Board();
            }
        }

        void keep(Board board) {
            boards[next].copyFrom(board);
            next = (next + 1) % UNDOS;
            size = Math.min(size + 1, UNDOS);
        }

        void giveBack(Board board) {
            if (size <= 0) {
                return;
            }
            next = (next + UNDOS - 1) % UNDOS;
            size--;
            board.copyFrom(boards[next]);
        }
    }
}
