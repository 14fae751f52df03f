/** Promises 9 to 12 and the 512 calls: each sentence that names a boundary case, in the document's words. */
public final class AnswerBoundsTest {
    private static final int MIN = Integer.MIN_VALUE;
    private static final int MAX = Integer.MAX_VALUE;
    private static final Check CHECK = new Check("AnswerBoundsTest");

    public static void main(String[] args) {
        valueBefore();
        valueReturned();
        valueRaised();
        valueElse();
        valueOfTheLatest();
        countBefore();
        countOfAnother();
        countOfFuel();
        countOfFrames();
        countOfTriggers();
        countOfChanges();
        countOfChangesTakenBack();
        countOfTheLatest();
        rowsOfNone();
        rowsThereAre();
        cellOfNoTable();
        cellOfNoRow();
        cellOfNoColumn();
        cellThatWent();
        lastCallOfInserts();
        lastCallOfRefusedProcedures();
        lastCallOfTriggers();
        CHECK.finish();
    }

    private static void define(TriggerBase base, int... words) {
        CHECK.due("end", Check.define(base, words), 0);
    }

    /**
     * Procedures: 0 returns its argument, 1 raises it, 2 divides 1 by it, 3 loops, 4 inserts it three times into table
     * 0 and fires, if it is bound, 4 again. The endings 0 to 5 can be had by them.
     */
    private static TriggerBase withProcedures() {
        TriggerBase base = new TriggerBase();
        define(base, Words.LOAD, 0, Words.RETURN);
        define(base, Words.LOAD, 0, Words.RAISE);
        define(base, Words.PUSH, 1, Words.LOAD, 0, Words.DIVIDE, Words.RETURN);
        define(base, Words.JUMP, 0);
        define(base, Words.LOAD, 0, Words.COPY, Words.COPY, Words.INSERT, 0, Words.RETURN);
        return base;
    }

    private static void valueBefore() {
        CHECK.sentence("Promise 9", "0 before");
        TriggerBase base = new TriggerBase();
        CHECK.due("new", base.value(), 0);
        define(base, Words.PUSH, 5, Words.RETURN);
        base.bind(0, 0, 0);
        CHECK.due("no call yet", base.value(), 0);
    }

    private static void valueReturned() {
        CHECK.sentence("Promise 9", "What the latest call returned (0)");
        TriggerBase base = withProcedures();
        for (int number : new int[] {MIN, -1, 0, 1, MAX}) {
            CHECK.due("call", base.call(0, number, 100), 0);
            CHECK.due("value", base.value(), number);
            CHECK.due("value again", base.value(), number);
        }
    }

    private static void valueRaised() {
        CHECK.sentence("Promise 9", "raised (1)");
        TriggerBase base = withProcedures();
        for (int number : new int[] {MIN, -1, 0, 1, MAX}) {
            CHECK.due("call", base.call(1, number, 100), 1);
            CHECK.due("value", base.value(), number);
        }
    }

    private static void valueElse() {
        CHECK.sentence("Promise 9", "else 0");
        TriggerBase base = withProcedures();
        elseZero(base, 2, 0, 2000, 2);
        elseZero(base, 3, 0, 2000, 3);
        elseZero(base, 0, 8, 1, 3);
        elseZero(base, 1, 8, 1, 3);
        elseZero(base, 0, 8, 0, 3);
        elseZero(base, 5, 0, 2000, 6);
        elseZero(base, -1, 0, 2000, 6);
        for (int i = 0; i < 16; i++) {
            base.call(4, 6, 100);
        }
        elseZero(base, 4, 6, 2000, 5);
        TriggerBase deep = withProcedures();
        deep.bind(0, 0, 4);
        elseZero(deep, 4, 6, 2000, 4);
    }

    /** A call that returned 7 comes before, so that nothing of it may stay. */
    private static void elseZero(TriggerBase base, int procedure, int argument, int fuel, int ending) {
        base.call(0, 7, 100);
        CHECK.due("value before", base.value(), 7);
        CHECK.due("call", base.call(procedure, argument, fuel), ending);
        CHECK.due("value of ending " + ending, base.value(), 0);
    }

    private static void valueOfTheLatest() {
        CHECK.sentence("Promise 9", "What the latest call returned");
        TriggerBase base = withProcedures();
        base.call(0, 7, 100);
        base.begin();
        base.emit(27);
        base.end();
        base.bind(4, 0, 0);
        base.bind(1, 0, 0);
        base.unbind(1, 0);
        base.count(-1);
        base.rows(4);
        base.cell(0, 0, 0);
        CHECK.due("only a call changes it", base.value(), 7);
        base.call(0, 8, 100);
        CHECK.due("the latest", base.value(), 8);
    }

    private static void countBefore() {
        CHECK.sentence("Promise 10", "0 before");
        TriggerBase base = withProcedures();
        base.bind(0, 0, 4);
        for (int what = 0; what < 4; what++) {
            CHECK.due("count " + what, new TriggerBase().count(what), 0);
            CHECK.due("count " + what + " with procedures", base.count(what), 0);
        }
    }

    private static void countOfAnother() {
        CHECK.sentence("Promise 10", "-1 for another what");
        TriggerBase base = withProcedures();
        for (int i = 0; i < 2; i++) {
            for (int what : new int[] {MIN, -2, -1, 4, 5, MAX}) {
                CHECK.due("count " + what, base.count(what), -1);
            }
            for (int what = 0; what < 4; what++) {
                CHECK.due("count " + what, base.count(what) >= 0, true);
            }
            base.call(4, 0, 100);
        }
    }

    private static void countOfFuel() {
        CHECK.sentence("Promise 10", "0 fuel that was used");
        TriggerBase base = withProcedures();
        int[][] calls = {{0, 100, 2}, {0, 2, 2}, {0, 1, 1}, {0, 0, 0}, {0, -1, 0}, {1, 100, 2}, {2, 100, 3},
            {3, 7, 7}, {3, 2000, 2000}, {3, 2001, 2000}, {5, 100, 0}};
        for (int[] call : calls) {
            base.call(call[0], 0, call[1]);
            CHECK.due("fuel of " + call[0] + " with " + call[1], base.count(0), call[2]);
        }
    }

    private static void countOfFrames() {
        CHECK.sentence("Promise 10", "1 how many frames lay in one another at most");
        TriggerBase base = new TriggerBase();
        define(base, Words.LOAD, 0, Words.RETURN);
        for (int i = 1; i < 9; i++) {
            define(base, Words.LOAD, 0, Words.CALL, i - 1, Words.CALL, 0, Words.RETURN);
        }
        for (int i = 0; i < 8; i++) {
            base.call(i, 0, 2000);
            CHECK.due("frames of " + i, base.count(1), i + 1);
        }
        base.call(8, 0, 2000);
        CHECK.due("at most eight", base.count(1), 8);
        base.call(9, 0, 2000);
        CHECK.due("no procedure, no frame", base.count(1), 0);
        base.call(1, 0, 1);
        CHECK.due("out of fuel before the second", base.count(1), 1);
        base.call(1, 0, 2);
        CHECK.due("out of fuel in the second", base.count(1), 2);
    }

    private static void countOfTriggers() {
        CHECK.sentence("Promise 10", "2 how many triggers were fired");
        TriggerBase base = withProcedures();
        define(base, Words.PUSH, 1, Words.CALL, 4, Words.CALL, 4, Words.CALL, 4, Words.RETURN);
        base.call(5, 0, 200);
        CHECK.due("none is bound", base.count(2), 0);
        base.bind(0, 0, 0);
        base.call(5, 0, 200);
        CHECK.due("one a row", base.count(2), 3);
        base.bind(0, 0, 1);
        base.call(5, 0, 200);
        CHECK.due("up to the one that raises", base.count(2), 1);
        base.bind(0, 0, 4);
        base.call(4, 0, 200);
        CHECK.due("up to the eighth frame", base.count(2), 7);
        base.call(0, 0, 200);
        CHECK.due("none in the latest", base.count(2), 0);
    }

    /** Inserts, updates and deletes a row of table 0, does so to rows that are not there, and raises its argument. */
    private static final int[] CHANGES = {
        Words.PUSH, 1, Words.COPY, Words.COPY, Words.INSERT, 0, Words.DROP,
        Words.PUSH, 0, Words.PUSH, 1, Words.UPDATE, 0, 0, Words.DROP,
        Words.PUSH, 0, Words.DELETE, 0, Words.DROP,
        Words.PUSH, -1, Words.DELETE, 0, Words.DROP,
        Words.PUSH, 16, Words.PUSH, 1, Words.UPDATE, 0, 0, Words.DROP,
        Words.LOAD, 0, Words.JUMP_IF_ZERO, 40,
        Words.LOAD, 0, Words.RAISE, Words.PUSH, 5, Words.RETURN};

    private static void countOfChanges() {
        CHECK.sentence("Promise 10", "3 how many rows were changed (inserts, deletes, updates");
        TriggerBase base = withProcedures();
        define(base, CHANGES);
        CHECK.due("call", base.call(5, 0, 200), 0);
        CHECK.due("insert, update, delete", base.count(3), 3);
        base.call(4, 0, 200);
        CHECK.due("one insert", base.count(3), 1);
        base.call(0, 0, 200);
        CHECK.due("none in the latest", base.count(3), 0);
    }

    private static void countOfChangesTakenBack() {
        CHECK.sentence("Promise 10", "also when they were taken back");
        TriggerBase base = withProcedures();
        define(base, CHANGES);
        CHECK.due("raised", base.call(5, 1, 200), 1);
        CHECK.due("changes", base.count(3), 3);
        CHECK.due("rows", base.rows(0), 0);
        int[] fuels = {3, 4, 8, 12};
        int[] changes = {0, 1, 2, 3};
        for (int i = 0; i < fuels.length; i++) {
            int fuel = fuels[i];
            CHECK.due("fuel " + fuel, base.call(5, 0, fuel), 3);
            CHECK.due("changes with " + fuel, base.count(3), changes[i]);
        }
        base.bind(0, 0, 4);
        CHECK.due("deep", base.call(4, 1, 200), 4);
        CHECK.due("changes", base.count(3), 8);
        base.bind(0, 0, 2);
        define(base, Words.PUSH, 1, Words.CALL, 4, Words.RETURN);
        CHECK.due("by 0 in a trigger", base.call(6, 1, 200), 2);
        CHECK.due("changes", base.count(3), 1);
        base.unbind(0, 0);
        define(base, Words.PUSH, 1, Words.CALL, 4, Words.DROP, Words.JUMP, 0);
        CHECK.due("no room", base.call(7, 1, 2000), 5);
        CHECK.due("changes", base.count(3), 16);
        CHECK.due("rows", base.rows(0), 0);
    }

    private static void countOfTheLatest() {
        CHECK.sentence("Promise 10", "Of the latest call");
        TriggerBase base = withProcedures();
        base.bind(0, 0, 0);
        base.call(4, 3, 100);
        CHECK.told("first", base, 0, 7, 2, 1, 1);
        base.begin();
        base.emit(1);
        base.end();
        base.unbind(0, 0);
        base.rows(0);
        CHECK.told("only a call changes them", base, 0, 7, 2, 1, 1);
        base.call(0, 3, 100);
        CHECK.told("second", base, 3, 2, 1, 0, 0);
        base.call(4, 3, 100);
        base.call(99, 3, 100);
        CHECK.told("no procedure", base, 0, 0, 0, 0, 0);
    }

    private static void rowsOfNone() {
        CHECK.sentence("Promise 11", "-1 when there is none");
        TriggerBase base = withProcedures();
        for (int i = 0; i < 2; i++) {
            for (int table : new int[] {MIN, -1, 4, 5, 16, MAX}) {
                CHECK.due("table " + table, base.rows(table), -1);
            }
            base.call(4, 1, 100);
        }
        CHECK.due("the first", base.rows(0), 2);
        CHECK.due("the last", base.rows(3), 0);
    }

    private static void rowsThereAre() {
        CHECK.sentence("Promise 11", "How many rows a table has");
        TriggerBase base = withProcedures();
        for (int row = 0; row < 16; row++) {
            CHECK.due("rows", base.rows(0), row);
            base.call(4, 1, 100);
        }
        CHECK.due("full", base.rows(0), 16);
        base.call(4, 1, 100);
        CHECK.due("still full", base.rows(0), 16);
        for (int table = 1; table < 4; table++) {
            CHECK.due("another table", base.rows(table), 0);
        }
    }

    /** All tables are full, each cell of them is a number of its own and none is 0. */
    private static TriggerBase full() {
        TriggerBase base = new TriggerBase();
        for (int table = 0; table < 4; table++) {
            define(base, Words.LOAD, 0, Words.LOAD, 0, Words.PUSH, 1, Words.ADD, Words.LOAD, 0, Words.PUSH, 2,
                    Words.ADD, Words.INSERT, table, Words.RETURN);
            for (int row = 0; row < 16; row++) {
                base.call(table, 1000 * (table + 1) + 10 * row, 100);
            }
        }
        return base;
    }

    private static void cellOfNoTable() {
        CHECK.sentence("Promise 12", "A cell; 0 when there is none");
        TriggerBase base = full();
        for (int table = 0; table < 4; table++) {
            for (int row = 0; row < 16; row++) {
                for (int column = 0; column < 3; column++) {
                    int want = 1000 * (table + 1) + 10 * row + column;
                    CHECK.due("cell", base.cell(table, row, column), want);
                }
            }
        }
        for (int table : new int[] {MIN, -1, 4, MAX}) {
            CHECK.due("table " + table, base.cell(table, 0, 0), 0);
            CHECK.due("table " + table, base.cell(table, 15, 2), 0);
        }
    }

    private static void cellOfNoRow() {
        CHECK.sentence("Promise 12", "A cell; 0 when there is none");
        TriggerBase base = full();
        for (int table = 0; table < 4; table++) {
            for (int row : new int[] {MIN, -16, -1, 16, 17, MAX}) {
                CHECK.due("row " + row, base.cell(table, row, 0), 0);
                CHECK.due("row " + row, base.cell(table, row, 2), 0);
            }
        }
        TriggerBase other = withProcedures();
        other.call(4, 7, 100);
        CHECK.due("row 0", other.cell(0, 0, 0), 7);
        CHECK.due("row 1", other.cell(0, 1, 0), 0);
        CHECK.due("row 0 of another", other.cell(1, 0, 0), 0);
    }

    private static void cellOfNoColumn() {
        CHECK.sentence("Promise 12", "A cell; 0 when there is none");
        TriggerBase base = full();
        for (int table = 0; table < 4; table++) {
            for (int column : new int[] {MIN, -3, -1, 3, 4, 48, MAX}) {
                CHECK.due("column " + column, base.cell(table, 0, column), 0);
                CHECK.due("column " + column, base.cell(table, 5, column), 0);
                CHECK.due("column " + column, base.cell(table, 15, column), 0);
            }
        }
    }

    private static void cellThatWent() {
        CHECK.sentence("Promise 12", "A cell; 0 when there is none");
        TriggerBase base = withProcedures();
        define(base, Words.LOAD, 0, Words.DELETE, 0, Words.RETURN);
        base.call(4, 7, 100);
        base.call(4, 8, 100);
        base.call(5, 1, 100);
        for (int column = 0; column < 3; column++) {
            CHECK.due("one that stays", base.cell(0, 0, column), 7);
            CHECK.due("one that went", base.cell(0, 1, column), 0);
        }
        base.bind(0, 0, 1);
        CHECK.due("raised by the trigger", base.call(4, 9, 100), 1);
        CHECK.due("one that was taken back", base.cell(0, 1, 0), 0);
    }

    private static void lastCallOfInserts() {
        CHECK.sentence("What it is", "An object is used for at most 512 calls after it has been made");
        TriggerBase base = new TriggerBase();
        define(base, Words.SIZE, 0, Words.PUSH, 15, Words.LESS, Words.JUMP_IF_ZERO, 14,
                Words.LOAD, 0, Words.COPY, Words.COPY, Words.INSERT, 0, Words.RETURN,
                Words.PUSH, 0, Words.DELETE, 0, Words.RETURN);
        int calls = 21;
        int rows = 0;
        for (; calls < 510; calls++) {
            CHECK.due("call " + calls, base.call(0, calls, 2000), 0);
            rows = rows < 15 ? rows + 1 : rows - 1;
        }
        CHECK.due("511th call", base.rows(0), rows);
        CHECK.due("512th call", base.call(0, 1, 2000), 0);
    }

    private static void lastCallOfRefusedProcedures() {
        CHECK.sentence("What it is", "An object is used for at most 512 calls after it has been made");
        TriggerBase base = new TriggerBase();
        for (int calls = 0; calls < 510; calls += 3) {
            CHECK.due("begin", base.begin(), 0);
            CHECK.due("emit", base.emit(27), true);
            CHECK.due("end", base.end(), 1);
        }
        CHECK.due("511th call", base.begin(), 0);
        CHECK.due("512th call", base.end(), 8);
        TriggerBase other = new TriggerBase();
        other.begin();
        for (int calls = 1; calls < 511; calls++) {
            CHECK.due("emit", other.emit(Words.RETURN), calls <= 60);
        }
        CHECK.due("512th call", other.end(), 5);
    }

    private static void lastCallOfTriggers() {
        CHECK.sentence("What it is", "An object is used for at most 512 calls after it has been made");
        TriggerBase base = new TriggerBase();
        define(base, Words.PUSH, 1, Words.RETURN);
        for (int calls = 5; calls < 511; calls += 2) {
            CHECK.due("bind", base.bind(3, 2, 0), 0);
            CHECK.due("unbind", base.unbind(3, 2), true);
        }
        CHECK.due("512th call", base.unbind(3, 2), false);
    }
}
