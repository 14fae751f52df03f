import java.util.Arrays;

/** Tables with verified procedures and triggers beside them; README.md says how to use it. */
public final class TriggerBase {
    private static final int TABLES = 4;
    private static final int ROWS = 16;
    private static final int COLUMNS = 3;
    private static final int PROCEDURES = 12;
    private static final int WORDS = 60;
    private static final int LOCALS = 8;
    private static final int STACK = 12;
    private static final int FRAMES = 8;
    private static final int EVENTS = 3;
    private static final int MOST_FUEL = 2000;

    private static final int ON_INSERT = 0;
    private static final int ON_DELETE = 1;
    private static final int ON_UPDATE = 2;

    private static final int RUNNING = -1;
    private static final int DONE = 0;
    private static final int RAISED = 1;
    private static final int ZERO = 2;
    private static final int FUEL = 3;
    private static final int DEEP = 4;
    private static final int ROOM = 5;
    private static final int NONE = 6;

    private static final int COUNTS = 4;
    private static final int FUEL_USED = 0;
    private static final int FRAMES_AT_MOST = 1;
    private static final int TRIGGERS_FIRED = 2;
    private static final int ROWS_CHANGED = 3;

    private static final int NO_OPERAND = 0;
    private static final int A_NUMBER = 1;
    private static final int A_LOCAL = 2;
    private static final int A_PLACE = 3;
    private static final int A_TABLE = 4;
    private static final int A_COLUMN = 5;
    private static final int A_PROCEDURE = 6;

    private static final int NOT_THERE = -1;

    private final Machine machine;
    private final Library library;
    private final Tables tables;
    private final Triggers triggers;

    public TriggerBase() {
        machine = new Machine();
        library = machine.library;
        tables = machine.tables;
        triggers = machine.triggers;
    }

    public int begin() {
        return library.openNext();
    }

    public boolean emit(int word) {
        return library.append(word);
    }

    public int end() {
        return library.closeOpen();
    }

    public int procedures() {
        return library.verified;
    }

    public int bind(int table, int event, int procedure) {
        if (!isBelow(table, TABLES)) {
            return 1;
        }
        if (!isBelow(event, EVENTS)) {
            return 2;
        }
        if (!library.has(procedure)) {
            return 3;
        }
        triggers.put(table, event, procedure);
        return 0;
    }

    public boolean unbind(int table, int event) {
        boolean wasThere = triggers.find(table, event) != NOT_THERE;
        triggers.put(table, event, NOT_THERE);
        return wasThere;
    }

    public int call(int procedure, int argument, int fuel) {
        return machine.perform(procedure, argument, Math.max(0, Math.min(fuel, MOST_FUEL)));
    }

    public int value() {
        return machine.result;
    }

    public int count(int what) {
        return isBelow(what, COUNTS) ? machine.counts[what] : -1;
    }

    public int rows(int table) {
        return tables.size(table);
    }

    public int cell(int table, int row, int column) {
        return tables.read(table, row, column);
    }

    private static boolean isBelow(int number, int bound) {
        return number >= 0 && number < bound;
    }

    /** The instructions in the order of their words: what they take, what they give, their operands. */
    private enum Instruction {
        PUSH(0, 1, A_NUMBER, NO_OPERAND),
        DROP(1, 0, NO_OPERAND, NO_OPERAND),
        COPY(1, 2, NO_OPERAND, NO_OPERAND),
        SWAP(2, 2, NO_OPERAND, NO_OPERAND),
        ADD(2, 1, NO_OPERAND, NO_OPERAND),
        SUBTRACT(2, 1, NO_OPERAND, NO_OPERAND),
        MULTIPLY(2, 1, NO_OPERAND, NO_OPERAND),
        DIVIDE(2, 1, NO_OPERAND, NO_OPERAND),
        REMAINDER(2, 1, NO_OPERAND, NO_OPERAND),
        LESS(2, 1, NO_OPERAND, NO_OPERAND),
        SAME(2, 1, NO_OPERAND, NO_OPERAND),
        NOT(1, 1, NO_OPERAND, NO_OPERAND),
        LOAD(0, 1, A_LOCAL, NO_OPERAND),
        STORE(1, 0, A_LOCAL, NO_OPERAND),
        JUMP(0, 0, A_PLACE, NO_OPERAND),
        JUMP_IF_ZERO(1, 0, A_PLACE, NO_OPERAND),
        SIZE(0, 1, A_TABLE, NO_OPERAND),
        READ(1, 1, A_TABLE, A_COLUMN),
        INSERT(3, 1, A_TABLE, NO_OPERAND),
        DELETE(1, 1, A_TABLE, NO_OPERAND),
        UPDATE(2, 1, A_TABLE, A_COLUMN),
        FIND(2, 1, A_TABLE, A_COLUMN),
        OLD(0, 1, A_COLUMN, NO_OPERAND),
        NEW(0, 1, A_COLUMN, NO_OPERAND),
        CALL(1, 1, A_PROCEDURE, NO_OPERAND),
        RAISE(1, 0, NO_OPERAND, NO_OPERAND),
        RETURN(1, 0, NO_OPERAND, NO_OPERAND),
        // Stands last, so that its own number is no instruction's word either.
        UNKNOWN(0, 0, NO_OPERAND, NO_OPERAND);

        private static final Instruction[] ALL = values();

        final int takes;
        final int gives;
        final int firstKind;
        final int secondKind;
        final int words;

        Instruction(int takes, int gives, int firstKind, int secondKind) {
            this.takes = takes;
            this.gives = gives;
            this.firstKind = firstKind;
            this.secondKind = secondKind;
            this.words = 1 + (firstKind == NO_OPERAND ? 0 : 1) + (secondKind == NO_OPERAND ? 0 : 1);
        }

        static Instruction of(int word) {
            return isBelow(word, ALL.length) ? ALL[word] : UNKNOWN;
        }

        boolean mayJump() {
            return firstKind == A_PLACE;
        }

        boolean mayGoOnBehind() {
            return this != JUMP && this != RAISE && this != RETURN;
        }
    }

    /** All tables, and how they were when they were last kept. */
    private static final class Tables {
        private final int[] cells = new int[TABLES * ROWS * COLUMNS];
        private final int[] sizes = new int[TABLES];
        private final int[] keptCells = new int[TABLES * ROWS * COLUMNS];
        private final int[] keptSizes = new int[TABLES];

        private static int index(int table, int row, int column) {
            return (table * ROWS + row) * COLUMNS + column;
        }

        int size(int table) {
            return isBelow(table, TABLES) ? sizes[table] : -1;
        }

        boolean has(int table, int row) {
            return isBelow(table, TABLES) && isBelow(row, sizes[table]);
        }

        int read(int table, int row, int column) {
            return has(table, row) && isBelow(column, COLUMNS) ? cells[index(table, row, column)] : 0;
        }

        void write(int table, int row, int column, int number) {
            if (has(table, row) && isBelow(column, COLUMNS)) {
                cells[index(table, row, column)] = number;
            }
        }

        /** Makes room for a row behind the others: its number, or NOT_THERE when the table is full. */
        int addRow(int table) {
            if (!isBelow(table, TABLES) || sizes[table] >= ROWS) {
                return NOT_THERE;
            }
            sizes[table]++;
            return sizes[table] - 1;
        }

        void removeRow(int table, int row) {
            if (has(table, row)) {
                int moved = (sizes[table] - row - 1) * COLUMNS;
                System.arraycopy(cells, index(table, row + 1, 0), cells, index(table, row, 0), moved);
                sizes[table]--;
            }
        }

        int find(int table, int from, int column, int number) {
            if (!isBelow(table, TABLES) || !isBelow(column, COLUMNS)) {
                return NOT_THERE;
            }
            for (int row = Math.max(from, 0); row < sizes[table]; row++) {
                if (cells[index(table, row, column)] == number) {
                    return row;
                }
            }
            return NOT_THERE;
        }

        void copyRow(int table, int row, int[] copy) {
            for (int column = 0; column < copy.length; column++) {
                copy[column] = read(table, row, column);
            }
        }

        void keep() {
            System.arraycopy(cells, 0, keptCells, 0, cells.length);
            System.arraycopy(sizes, 0, keptSizes, 0, sizes.length);
        }

        void takeBack() {
            System.arraycopy(keptCells, 0, cells, 0, cells.length);
            System.arraycopy(keptSizes, 0, sizes, 0, sizes.length);
        }
    }

    /** The procedure of each table and event, if there is one. */
    private static final class Triggers {
        private final int[] bound = new int[TABLES * EVENTS];

        Triggers() {
            Arrays.fill(bound, NOT_THERE);
        }

        void put(int table, int event, int procedure) {
            if (isBelow(table, TABLES) && isBelow(event, EVENTS)) {
                bound[table * EVENTS + event] = procedure;
            }
        }

        int find(int table, int event) {
            boolean inBounds = isBelow(table, TABLES) && isBelow(event, EVENTS);
            return inBounds ? bound[table * EVENTS + event] : NOT_THERE;
        }
    }

    /** The words of the verified procedures and, behind them, of the one that is open. */
    private static final class Library {
        private final int[] words = new int[PROCEDURES * WORDS];
        private final int[] lengths = new int[PROCEDURES];
        private final Verifier verifier = new Verifier();
        int verified = 0;
        private boolean isOpen = false;

        boolean has(int procedure) {
            return isBelow(procedure, verified);
        }

        int length(int procedure) {
            return isBelow(procedure, PROCEDURES) ? lengths[procedure] : 0;
        }

        int word(int procedure, int place) {
            boolean inBounds = isBelow(procedure, PROCEDURES) && isBelow(place, lengths[procedure]);
            return inBounds ? words[procedure * WORDS + place] : NOT_THERE;
        }

        Instruction instructionAt(int procedure, int place) {
            return Instruction.of(word(procedure, place));
        }

        int openNext() {
            if (isOpen) {
                return -1;
            }
            if (verified >= PROCEDURES) {
                return -2;
            }
            isOpen = true;
            lengths[verified] = 0;
            return verified;
        }

        boolean append(int word) {
            int length = length(verified);
            if (!isOpen || length >= WORDS) {
                return false;
            }
            words[verified * WORDS + length] = word;
            lengths[verified] = length + 1;
            return true;
        }

        int closeOpen() {
            if (!isOpen) {
                return -1;
            }
            isOpen = false;
            int fault = verifier.firstFault(this, verified);
            if (fault == Verifier.NO_FAULT) {
                verified++;
            }
            return fault;
        }
    }

    /** Finds the first rule that a procedure breaks. */
    private static final class Verifier {
        static final int NO_FAULT = 0;

        private static final int NO_RULE = 0;
        private static final int NO_SUCH_INSTRUCTION = 1;
        private static final int OPERANDS_MISSING = 2;
        private static final int OPERAND_OUT_OF_BOUNDS = 3;
        private static final int PLACE_OF_NO_INSTRUCTION = 4;
        private static final int TAKES_TOO_MUCH = 5;
        private static final int TOO_HIGH = 6;
        private static final int ANOTHER_HEIGHT = 7;
        private static final int BEHIND_THE_WORDS = 8;

        private static final int NO_INSTRUCTION = -2;
        private static final int NOT_REACHED = -1;

        // One row tells both where instructions stand and with what height they were reached.
        private final int[] heights = new int[WORDS];
        private final boolean[] lookedAt = new boolean[WORDS];

        int firstFault(Library library, int procedure) {
            int fault = faultOfWords(library, procedure);
            if (fault == NO_FAULT) {
                fault = faultOfPlaces(library, procedure);
            }
            if (fault == NO_FAULT) {
                fault = faultOfHeights(library, procedure);
            }
            return fault;
        }

        private static int fault(int place, int rule) {
            return 16 * place + rule;
        }

        private int faultOfWords(Library library, int procedure) {
            Arrays.fill(heights, NO_INSTRUCTION);
            int length = Math.min(library.length(procedure), WORDS);
            int place = 0;
            // Each instruction has one word at least, so that as many looks as words are enough.
            for (int looks = 0; looks < length && place < length; looks++) {
                Instruction instruction = library.instructionAt(procedure, place);
                int rule = ruleOfWords(library, procedure, place, instruction);
                if (rule != NO_RULE) {
                    return fault(place, rule);
                }
                heights[place] = NOT_REACHED;
                lookedAt[place] = false;
                place += instruction.words;
            }
            return NO_FAULT;
        }

        private static int ruleOfWords(Library library, int procedure, int place, Instruction instruction) {
            if (instruction == Instruction.UNKNOWN) {
                return NO_SUCH_INSTRUCTION;
            }
            if (place + instruction.words > library.length(procedure)) {
                return OPERANDS_MISSING;
            }
            boolean inBounds = isInBounds(library, instruction.firstKind, library.word(procedure, place + 1))
                    && isInBounds(library, instruction.secondKind, library.word(procedure, place + 2));
            return inBounds ? NO_RULE : OPERAND_OUT_OF_BOUNDS;
        }

        private static boolean isInBounds(Library library, int kind, int operand) {
            switch (kind) {
                case A_LOCAL:
                    return isBelow(operand, LOCALS);
                case A_TABLE:
                    return isBelow(operand, TABLES);
                case A_COLUMN:
                    return isBelow(operand, COLUMNS);
                case A_PROCEDURE:
                    return isBelow(operand, library.verified);
                default:
                    return true;
            }
        }

        private int faultOfPlaces(Library library, int procedure) {
            for (int place = 0; place < library.length(procedure); place++) {
                boolean jumps = isInstruction(place) && library.instructionAt(procedure, place).mayJump();
                if (jumps && !isInstruction(library.word(procedure, place + 1))) {
                    return fault(place, PLACE_OF_NO_INSTRUCTION);
                }
            }
            return NO_FAULT;
        }

        private boolean isInstruction(int place) {
            return isBelow(place, WORDS) && heights[place] != NO_INSTRUCTION;
        }

        private int faultOfHeights(Library library, int procedure) {
            int rule = reach(0, 0);
            int place = 0;
            // Each place is looked at once at most, so that WORDS looks are enough.
            for (int looks = 0; looks < WORDS && rule == NO_RULE; looks++) {
                int least = leastToLookAt();
                if (least == NOT_THERE) {
                    return NO_FAULT;
                }
                place = least;
                lookedAt[place] = true;
                rule = ruleOfHeights(library, procedure, place);
            }
            return rule == NO_RULE ? NO_FAULT : fault(place, rule);
        }

        private int leastToLookAt() {
            for (int place = 0; place < WORDS; place++) {
                if (heights[place] >= 0 && !lookedAt[place]) {
                    return place;
                }
            }
            return NOT_THERE;
        }

        private int ruleOfHeights(Library library, int procedure, int place) {
            Instruction instruction = library.instructionAt(procedure, place);
            int height = heights[place];
            if (instruction.takes > height) {
                return TAKES_TOO_MUCH;
            }
            int heightBehind = height - instruction.takes + instruction.gives;
            if (heightBehind > STACK) {
                return TOO_HIGH;
            }
            int rule = NO_RULE;
            if (instruction.mayGoOnBehind()) {
                rule = reach(place + instruction.words, heightBehind);
            }
            if (rule == NO_RULE && instruction.mayJump()) {
                rule = reach(library.word(procedure, place + 1), heightBehind);
            }
            return rule;
        }

        private int reach(int place, int height) {
            // Rule 4 held before: what is no instruction here can only be behind the words.
            if (!isInstruction(place)) {
                return BEHIND_THE_WORDS;
            }
            if (heights[place] == NOT_REACHED) {
                heights[place] = height;
            }
            return heights[place] == height ? NO_RULE : ANOTHER_HEIGHT;
        }
    }

    /** One run of a procedure; made once and started again for each run at its depth. */
    private static final class Frame {
        private final int[] stack = new int[STACK];
        private int height = 0;
        final int[] locals = new int[LOCALS];
        final int[] oldRow = new int[COLUMNS];
        final int[] newRow = new int[COLUMNS];
        int procedure = NOT_THERE;
        int place = 0;
        boolean isTrigger = false;
        int owed = 0;

        void start(int startedProcedure, int argument) {
            height = 0;
            procedure = startedProcedure;
            place = 0;
            isTrigger = false;
            Arrays.fill(locals, 0);
            Arrays.fill(oldRow, 0);
            Arrays.fill(newRow, 0);
            locals[0] = argument;
        }

        /** Makes this the run of a trigger: the instruction that fired it owes its caller a number. */
        void becomeTrigger(int[] rowBefore, int[] rowAfter, int owedNumber) {
            isTrigger = true;
            owed = owedNumber;
            System.arraycopy(rowBefore, 0, oldRow, 0, COLUMNS);
            System.arraycopy(rowAfter, 0, newRow, 0, COLUMNS);
        }

        // The verifier keeps stack and operands in bounds; they are looked at here all the same,
        // so that no index can go wrong whatever stands in the words.

        void push(int number) {
            if (height < STACK) {
                stack[height] = number;
                height++;
            }
        }

        int pop() {
            if (height <= 0) {
                return 0;
            }
            height--;
            return stack[height];
        }

        void store(int local, int number) {
            if (isBelow(local, LOCALS)) {
                locals[local] = number;
            }
        }

        static int at(int[] numbers, int index) {
            return isBelow(index, numbers.length) ? numbers[index] : 0;
        }
    }

    /** Performs calls: the frames that are open, and what is told of the latest call. */
    private static final class Machine {
        final Library library = new Library();
        final Tables tables = new Tables();
        final Triggers triggers = new Triggers();
        final int[] counts = new int[COUNTS];
        int result = 0;
        private final Frame[] frames = new Frame[FRAMES];
        private final int[] rowBefore = new int[COLUMNS];
        private final int[] rowAfter = new int[COLUMNS];
        private int depth = 0;
        private Frame top;

        Machine() {
            for (int i = 0; i < FRAMES; i++) {
                frames[i] = new Frame();
            }
            top = frames[0];
        }

        int perform(int procedure, int argument, int fuel) {
            result = 0;
            depth = 0;
            Arrays.fill(counts, 0);
            if (!library.has(procedure)) {
                return NONE;
            }
            tables.keep();
            int ending = open(procedure, argument);
            for (int left = fuel; left > 0 && ending == RUNNING; left--) {
                counts[FUEL_USED]++;
                ending = step();
            }
            if (ending == RUNNING) {
                ending = FUEL;
            }
            if (ending != DONE) {
                tables.takeBack();
            }
            return ending;
        }

        private int open(int procedure, int argument) {
            if (depth >= FRAMES) {
                return DEEP;
            }
            top = frames[depth];
            depth++;
            top.start(procedure, argument);
            counts[FRAMES_AT_MOST] = Math.max(counts[FRAMES_AT_MOST], depth);
            return RUNNING;
        }

        /** Does one instruction: how the call ends by it, or RUNNING. */
        private int step() {
            Frame frame = top;
            Instruction instruction = library.instructionAt(frame.procedure, frame.place);
            int first = library.word(frame.procedure, frame.place + 1);
            int second = library.word(frame.procedure, frame.place + 2);
            frame.place += instruction.words;
            switch (instruction) {
                case DIVIDE:
                case REMAINDER:
                    return divide(frame, instruction);
                case JUMP:
                    frame.place = first;
                    return RUNNING;
                case JUMP_IF_ZERO:
                    frame.place = frame.pop() == 0 ? first : frame.place;
                    return RUNNING;
                case INSERT:
                    return insert(frame, first);
                case DELETE:
                    return delete(frame, first);
                case UPDATE:
                    return update(frame, first, second);
                case CALL:
                    return open(first, frame.pop());
                case RAISE:
                    result = frame.pop();
                    return RAISED;
                case RETURN:
                    return giveBack(frame);
                default:
                    compute(frame, instruction, first, second);
                    return RUNNING;
            }
        }

        /** Does an instruction that only takes and gives. */
        private void compute(Frame frame, Instruction instruction, int first, int second) {
            switch (instruction) {
                case PUSH:
                    frame.push(first);
                    break;
                case DROP:
                    frame.pop();
                    break;
                case COPY:
                    int copied = frame.pop();
                    frame.push(copied);
                    frame.push(copied);
                    break;
                case NOT:
                    frame.push(frame.pop() == 0 ? 1 : 0);
                    break;
                case LOAD:
                    frame.push(Frame.at(frame.locals, first));
                    break;
                case STORE:
                    frame.store(first, frame.pop());
                    break;
                case SIZE:
                    frame.push(tables.size(first));
                    break;
                case READ:
                    frame.push(tables.read(first, frame.pop(), second));
                    break;
                case OLD:
                    frame.push(Frame.at(frame.oldRow, first));
                    break;
                case NEW:
                    frame.push(Frame.at(frame.newRow, first));
                    break;
                default:
                    computeOfTwo(frame, instruction, first, second);
                    break;
            }
        }

        private void computeOfTwo(Frame frame, Instruction instruction, int first, int second) {
            int b = frame.pop();
            int a = frame.pop();
            switch (instruction) {
                case SWAP:
                    frame.push(b);
                    frame.push(a);
                    break;
                case ADD:
                    frame.push(a + b);
                    break;
                case SUBTRACT:
                    frame.push(a - b);
                    break;
                case MULTIPLY:
                    frame.push(a * b);
                    break;
                case LESS:
                    frame.push(a < b ? 1 : 0);
                    break;
                case SAME:
                    frame.push(a == b ? 1 : 0);
                    break;
                case FIND:
                    frame.push(tables.find(first, a, second, b));
                    break;
                default:
                    break;
            }
        }

        private static int divide(Frame frame, Instruction instruction) {
            int b = frame.pop();
            int a = frame.pop();
            if (b == 0) {
                return ZERO;
            }
            frame.push(instruction == Instruction.DIVIDE ? a / b : a % b);
            return RUNNING;
        }

        private int insert(Frame frame, int table) {
            int row = tables.addRow(table);
            if (row == NOT_THERE) {
                return ROOM;
            }
            for (int column = COLUMNS - 1; column >= 0; column--) {
                tables.write(table, row, column, frame.pop());
            }
            Arrays.fill(rowBefore, 0);
            tables.copyRow(table, row, rowAfter);
            return fire(table, ON_INSERT, row, row);
        }

        private int delete(Frame frame, int table) {
            int row = frame.pop();
            if (!tables.has(table, row)) {
                frame.push(0);
                return RUNNING;
            }
            tables.copyRow(table, row, rowBefore);
            tables.removeRow(table, row);
            Arrays.fill(rowAfter, 0);
            return fire(table, ON_DELETE, row, 1);
        }

        private int update(Frame frame, int table, int column) {
            int number = frame.pop();
            int row = frame.pop();
            if (!tables.has(table, row)) {
                frame.push(0);
                return RUNNING;
            }
            tables.copyRow(table, row, rowBefore);
            tables.write(table, row, column, number);
            tables.copyRow(table, row, rowAfter);
            return fire(table, ON_UPDATE, row, 1);
        }

        /** Ends a change of a row: what it gives waits until its trigger, if there is one, has returned. */
        private int fire(int table, int event, int row, int given) {
            counts[ROWS_CHANGED]++;
            int procedure = triggers.find(table, event);
            if (procedure == NOT_THERE) {
                top.push(given);
                return RUNNING;
            }
            int ending = open(procedure, row);
            if (ending == RUNNING) {
                counts[TRIGGERS_FIRED]++;
                top.becomeTrigger(rowBefore, rowAfter, given);
            }
            return ending;
        }

        private int giveBack(Frame frame) {
            int returned = frame.pop();
            depth--;
            if (depth <= 0) {
                result = returned;
                return DONE;
            }
            top = frames[depth - 1];
            top.push(frame.isTrigger ? frame.owed : returned);
            return RUNNING;
        }
    }
}
