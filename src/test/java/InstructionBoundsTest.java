import java.util.Arrays;

/** The terms of tables and instructions: each sentence that names a boundary case, in the document's words. */
public final class InstructionBoundsTest {
    private static final int MIN = Integer.MIN_VALUE;
    private static final int MAX = Integer.MAX_VALUE;
    private static final int[] NO_ROWS = {MIN, -16, -1, 5, 6, 15, 16, 21, MAX};
    private static final Check CHECK = new Check("InstructionBoundsTest");

    public static void main(String[] args) {
        tablesThereAre();
        sixteenRows();
        cellsAreInts();
        rowsMoveUp();
        rowsMoveUpInAFullTable();
        lastNamedIsTopmost();
        othersStayOnTheStack();
        intsWrap();
        dividesAsInJava();
        comparesWithoutWrapping();
        zeroOrNot();
        eightLocals();
        goesOnAt();
        goesOnIfZero();
        howManyRows();
        readsNoSuchRow();
        givesItsNumber();
        deletesNone();
        updatesNoSuchRow();
        givesZeroAboveOthers();
        findsFromZeroOn();
        findsNone();
        raisesAndReturns();
        CHECK.finish();
    }

    private static int ask(TriggerBase base, int procedure, int argument) {
        CHECK.due("call of " + procedure + " with " + argument, base.call(procedure, argument, 2000), 0);
        return base.value();
    }

    private static void define(TriggerBase base, int... words) {
        CHECK.due("end", Check.define(base, words), 0);
    }

    /** Procedure 0 inserts its argument, 10 times it and its negative into a table; it is called with 1, 2, .. */
    private static TriggerBase withRows(int table, int rows) {
        TriggerBase base = new TriggerBase();
        define(base, Words.LOAD, 0, Words.LOAD, 0, Words.PUSH, 10, Words.MULTIPLY,
                Words.PUSH, 0, Words.LOAD, 0, Words.SUBTRACT, Words.INSERT, table, Words.RETURN);
        for (int row = 0; row < rows; row++) {
            ask(base, 0, row + 1);
        }
        return base;
    }

    private static int[] row(int number) {
        return new int[] {number, 10 * number, -number};
    }

    private static void tablesThereAre() {
        CHECK.sentence("Terms", "TABLES 0 .. 3");
        for (int table = 0; table < 4; table++) {
            TriggerBase base = withRows(table, 2);
            for (int other = 0; other < 4; other++) {
                if (other == table) {
                    CHECK.table("filled", base, other, row(1), row(2));
                } else {
                    CHECK.table("empty", base, other);
                }
            }
        }
    }

    private static void sixteenRows() {
        CHECK.sentence("Terms", "at most 16 ROWS, 0, 1, .. in order");
        for (int table = 0; table < 4; table++) {
            TriggerBase base = withRows(table, 16);
            CHECK.due("rows", base.rows(table), 16);
            CHECK.due("a seventeenth", base.call(0, 17, 100), 5);
            CHECK.due("rows", base.rows(table), 16);
            for (int i = 0; i < 16; i++) {
                CHECK.due("cell of row " + i, base.cell(table, i, 1), 10 * (i + 1));
            }
        }
    }

    private static void cellsAreInts() {
        CHECK.sentence("Terms", "each with three CELLS (columns 0 .. 2), ints");
        TriggerBase base = new TriggerBase();
        define(base, Words.PUSH, MIN, Words.PUSH, MAX, Words.PUSH, -1, Words.INSERT, 3, Words.RETURN);
        define(base, Words.PUSH, MAX, Words.PUSH, 0, Words.PUSH, MIN, Words.INSERT, 3, Words.RETURN);
        ask(base, 0, 0);
        ask(base, 1, 0);
        CHECK.table("cells", base, 3, new int[] {MIN, MAX, -1}, new int[] {MAX, 0, MIN});
        for (int column = 0; column < 3; column++) {
            define(base, Words.LOAD, 0, Words.READ, 3, column, Words.RETURN);
        }
        CHECK.due("read of column 0", ask(base, 2, 0), MIN);
        CHECK.due("read of column 1", ask(base, 3, 0), MAX);
        CHECK.due("read of column 2", ask(base, 4, 1), MIN);
    }

    private static void rowsMoveUp() {
        CHECK.sentence("Terms", "A row that goes makes those behind it move up");
        TriggerBase base = withRows(1, 4);
        define(base, Words.LOAD, 0, Words.DELETE, 1, Words.RETURN);
        ask(base, 1, 1);
        CHECK.table("one in the middle", base, 1, row(1), row(3), row(4));
        ask(base, 1, 2);
        CHECK.table("the last", base, 1, row(1), row(3));
        ask(base, 1, 0);
        CHECK.table("the first", base, 1, row(3));
        ask(base, 1, 0);
        CHECK.table("the only one", base, 1);
        CHECK.due("nothing is left", base.cell(1, 0, 0), 0);
        CHECK.due("inserted again", ask(base, 0, 9), 0);
        CHECK.table("inserted again", base, 1, row(9));
    }

    private static void rowsMoveUpInAFullTable() {
        CHECK.sentence("Terms", "A row that goes makes those behind it move up");
        for (int gone : new int[] {0, 7, 15}) {
            TriggerBase base = withRows(3, 16);
            define(base, Words.LOAD, 0, Words.DELETE, 3, Words.RETURN);
            ask(base, 1, gone);
            CHECK.due("rows", base.rows(3), 15);
            for (int i = 0; i < 15; i++) {
                CHECK.due("row " + i, base.cell(3, i, 2), i < gone ? -(i + 1) : -(i + 2));
            }
            CHECK.due("behind them", base.cell(3, 15, 2), 0);
            CHECK.due("the next one's number", ask(base, 0, 99), 15);
            CHECK.due("the next one", base.cell(3, 15, 0), 99);
        }
    }

    private static void two(int word, int a, int b, int want) {
        String what = "instruction " + word + " of " + a + ", " + b;
        int[] words = {Words.PUSH, a, Words.PUSH, b, word, Words.RETURN};
        CHECK.due(what, CHECK.returned(what, 0, words), want);
    }

    private static void lastNamedIsTopmost() {
        CHECK.sentence("Terms", "What they take goes off the stack (the topmost one last named)");
        two(Words.SUBTRACT, 9, 2, 7);
        two(Words.DIVIDE, 9, 2, 4);
        two(Words.REMAINDER, 2, 9, 2);
        two(Words.LESS, 2, 9, 1);
        two(Words.SWAP, 2, 9, 2);
        int[] swapped = {Words.PUSH, 2, Words.PUSH, 9, Words.SWAP, Words.SUBTRACT, Words.RETURN};
        CHECK.due("swap, then subtract", CHECK.returned("swap", 0, swapped), 7);
        TriggerBase base = new TriggerBase();
        define(base, Words.PUSH, 4, Words.PUSH, 5, Words.PUSH, 6, Words.INSERT, 0, Words.RETURN);
        define(base, Words.PUSH, 0, Words.PUSH, 1, Words.UPDATE, 0, 2, Words.RETURN);
        define(base, Words.PUSH, 0, Words.PUSH, 1, Words.FIND, 0, 2, Words.RETURN);
        ask(base, 0, 0);
        CHECK.table("insert", base, 0, new int[] {4, 5, 6});
        ask(base, 0, 0);
        ask(base, 1, 0);
        CHECK.table("update", base, 0, new int[] {4, 5, 1}, new int[] {4, 5, 6});
        CHECK.due("find", ask(base, 2, 0), 0);
    }

    private static void othersStayOnTheStack() {
        CHECK.sentence("Terms", "What they take goes off the stack .. what they give comes onto it");
        stays(0, 1, Words.PUSH, 4);
        stays(1, 0, Words.DROP);
        stays(1, 2, Words.COPY);
        stays(2, 2, Words.SWAP);
        for (int word = Words.ADD; word <= Words.SAME; word++) {
            stays(2, 1, word);
        }
        stays(1, 1, Words.NOT);
        stays(0, 1, Words.LOAD, 7);
        stays(1, 0, Words.STORE, 7);
        stays(1, 1, Words.READ, 0, 2);
        stays(0, 1, Words.SIZE, 3);
        stays(3, 1, Words.INSERT, 0);
        stays(1, 1, Words.DELETE, 0);
        stays(2, 1, Words.UPDATE, 0, 1);
        stays(2, 1, Words.FIND, 0, 1);
        stays(0, 1, Words.OLD, 0);
        stays(0, 1, Words.NEW, 2);
        stays(1, 1, Words.CALL, 0);
    }

    /** Above a 55 lies what the instruction takes, then what it gives: when that is dropped, 55 is left. */
    private static void stays(int takes, int gives, int... instruction) {
        TriggerBase base = withRows(0, 2);
        int behind = 2 + 2 * takes + instruction.length;
        int[] words = new int[behind + gives + 1];
        words[1] = 55;
        for (int i = 1; i <= takes; i++) {
            words[2 * i + 1] = 1;
        }
        System.arraycopy(instruction, 0, words, 2 + 2 * takes, instruction.length);
        Arrays.fill(words, behind, behind + gives, Words.DROP);
        words[behind + gives] = Words.RETURN;
        define(base, words);
        CHECK.due("below instruction " + instruction[0], ask(base, 1, 0), 55);
    }

    private static void intsWrap() {
        CHECK.sentence("Terms", "ints wrap");
        two(Words.ADD, MAX, 1, MIN);
        two(Words.ADD, MIN, -1, MAX);
        two(Words.ADD, MIN, MIN, 0);
        two(Words.ADD, MAX, MAX, -2);
        two(Words.SUBTRACT, MIN, 1, MAX);
        two(Words.SUBTRACT, MAX, -1, MIN);
        two(Words.SUBTRACT, 0, MIN, MIN);
        two(Words.MULTIPLY, MAX, MAX, 1);
        two(Words.MULTIPLY, MIN, -1, MIN);
        two(Words.MULTIPLY, MIN, 2, 0);
        two(Words.MULTIPLY, 46341, 46341, -2147479015);
        two(Words.MULTIPLY, 123456789, 987654321, -67153019);
    }

    private static void dividesAsInJava() {
        CHECK.sentence("Terms", "a / b, a % b (as in Java)");
        int[][] rows = {
            {7, 2, 3, 1}, {-7, 2, -3, -1}, {7, -2, -3, 1}, {-7, -2, 3, -1}, {1, 2, 0, 1}, {-1, 2, 0, -1},
            {0, 5, 0, 0}, {0, -5, 0, 0}, {MIN, -1, MIN, 0}, {MIN, 1, MIN, 0}, {MAX, -1, -MAX, 0}, {MIN, MIN, 1, 0},
            {MAX, MIN, 0, MAX}, {MIN, MAX, -1, -1}, {MIN, 2, -1073741824, 0}, {-5, MIN, 0, -5}};
        for (int[] r : rows) {
            two(Words.DIVIDE, r[0], r[1], r[2]);
            two(Words.REMAINDER, r[0], r[1], r[3]);
        }
    }

    private static void comparesWithoutWrapping() {
        CHECK.sentence("Terms", "1 if a is less than b, or the same, else 0");
        int[] rising = {MIN, MIN + 1, -1, 0, 1, 127, 128, MAX - 1, MAX};
        for (int i = 0; i < rising.length; i++) {
            for (int j = 0; j < rising.length; j++) {
                two(Words.LESS, rising[i], rising[j], i < j ? 1 : 0);
                two(Words.SAME, rising[i], rising[j], i == j ? 1 : 0);
            }
        }
    }

    private static void zeroOrNot() {
        CHECK.sentence("Terms", "11: takes a, gives 1 if it is 0, else 0");
        for (int a : new int[] {MIN, -1, 0, 1, 2, 256, MAX}) {
            int got = CHECK.returned("not", a, Words.LOAD, 0, Words.NOT, Words.RETURN);
            CHECK.due("not of " + a, got, a == 0 ? 1 : 0);
        }
    }

    private static void eightLocals() {
        CHECK.sentence("Terms", "gives LOCAL l (0 .. 7)");
        for (int local = 0; local < 8; local++) {
            TriggerBase base = new TriggerBase();
            for (int other = 0; other < 8; other++) {
                define(base, Words.PUSH, 5, Words.STORE, local, Words.LOAD, other, Words.RETURN);
                int unchanged = other == 0 ? MIN : 0;
                CHECK.due("local " + other, ask(base, other, MIN), other == local ? 5 : unchanged);
            }
        }
    }

    private static void goesOnAt() {
        CHECK.sentence("Terms", "14 p: goes on at place p");
        int[] words = new int[60];
        Arrays.fill(words, Words.NOT);
        words[0] = Words.LOAD;
        words[1] = 0;
        words[2] = Words.JUMP;
        words[3] = 59;
        words[59] = Words.RETURN;
        CHECK.due("to the last place", CHECK.returned("jump", 77, words), 77);
        // Back to place 0: local 1 becomes what local 0 was, until it is 0.
        int[] back = {Words.LOAD, 0, Words.JUMP_IF_ZERO, 14, Words.LOAD, 0, Words.STORE, 1, Words.PUSH, 0,
            Words.STORE, 0, Words.JUMP, 0, Words.LOAD, 1, Words.RETURN};
        CHECK.due("to place 0", CHECK.returned("back", 8, back), 8);
        TriggerBase base = new TriggerBase();
        define(base, Words.JUMP, 0);
        CHECK.due("to itself", base.call(0, 0, 2000), 3);
        CHECK.due("fuel", base.count(0), 2000);
    }

    private static void goesOnIfZero() {
        CHECK.sentence("Terms", "15 p: takes a, goes on at p if it is 0");
        int[] words = {Words.PUSH, 6, Words.LOAD, 0, Words.JUMP_IF_ZERO, 9, Words.DROP, Words.PUSH, 7, Words.RETURN};
        for (int a : new int[] {MIN, -1, 0, 1, 256, MAX}) {
            CHECK.due("branch of " + a, CHECK.returned("branch", a, words), a == 0 ? 6 : 7);
        }
    }

    private static void howManyRows() {
        CHECK.sentence("Terms", "16 t: gives how many rows table t has");
        for (int rows : new int[] {0, 1, 15, 16}) {
            TriggerBase base = withRows(2, rows);
            define(base, Words.SIZE, 2, Words.RETURN);
            define(base, Words.SIZE, 1, Words.RETURN);
            CHECK.due("size", ask(base, 1, 0), rows);
            CHECK.due("size of another", ask(base, 2, 0), 0);
        }
    }

    private static void readsNoSuchRow() {
        CHECK.sentence("Terms", "17 t c: .. 0 if there is no such row");
        TriggerBase base = withRows(1, 5);
        for (int column = 0; column < 3; column++) {
            define(base, Words.LOAD, 0, Words.READ, 1, column, Words.RETURN);
            for (int row = 0; row < 5; row++) {
                CHECK.due("read of " + row, ask(base, 1 + column, row), row(row + 1)[column]);
            }
            for (int none : NO_ROWS) {
                CHECK.due("read of " + none, ask(base, 1 + column, none), 0);
            }
        }
        define(base, Words.LOAD, 0, Words.READ, 0, 0, Words.RETURN);
        define(base, Words.LOAD, 0, Words.READ, 2, 0, Words.RETURN);
        CHECK.due("an empty table", ask(base, 4, 0), 0);
        CHECK.due("rows of the next table", ask(base, 4, 16), 0);
        CHECK.due("rows of the table before", ask(base, 5, -16), 0);
        define(base, Words.PUSH, 4, Words.DELETE, 1, Words.RETURN);
        ask(base, 6, 0);
        CHECK.due("a row that went", ask(base, 1, 4), 0);
    }

    private static void givesItsNumber() {
        CHECK.sentence("Terms", "18 t: .. INSERTS a row with these cells behind the others, gives its number");
        TriggerBase base = withRows(0, 0);
        for (int number = 0; number < 16; number++) {
            CHECK.due("insert", ask(base, 0, number + 1), number);
            CHECK.due("behind the others", base.cell(0, number, 0), number + 1);
            CHECK.due("the first stays", base.cell(0, 0, 0), 1);
        }
        define(base, Words.LOAD, 0, Words.DELETE, 0, Words.RETURN);
        ask(base, 1, 3);
        ask(base, 1, 3);
        CHECK.due("after two went", ask(base, 0, 50), 14);
        CHECK.due("after two went", ask(base, 0, 51), 15);
    }

    private static void deletesNone() {
        CHECK.sentence("Terms", "19 t: takes r: DELETES that row, gives 1; gives 0 if there is none");
        TriggerBase base = withRows(2, 5);
        define(base, Words.LOAD, 0, Words.DELETE, 2, Words.RETURN);
        base.bind(2, 1, 0);
        for (int none : NO_ROWS) {
            CHECK.due("delete of " + none, ask(base, 1, none), 0);
            CHECK.told("delete of " + none, base, 0, 3, 1, 0, 0);
        }
        CHECK.table("all stay", base, 2, row(1), row(2), row(3), row(4), row(5));
        base.unbind(2, 1);
        CHECK.due("delete of the last", ask(base, 1, 4), 1);
        CHECK.due("delete of it again", ask(base, 1, 4), 0);
        for (int rows = 4; rows > 0; rows--) {
            CHECK.due("delete of the first", ask(base, 1, 0), 1);
        }
        CHECK.due("delete of an empty table's", ask(base, 1, 0), 0);
    }

    private static void updatesNoSuchRow() {
        CHECK.sentence("Terms", "20 t c: .. gives 0 if there is no such row");
        for (int column = 0; column < 3; column++) {
            TriggerBase base = withRows(1, 5);
            define(base, Words.LOAD, 0, Words.PUSH, 99, Words.UPDATE, 1, column, Words.RETURN);
            base.bind(1, 2, 0);
            for (int none : NO_ROWS) {
                CHECK.due("update of " + none, ask(base, 1, none), 0);
                CHECK.told("update of " + none, base, 0, 4, 1, 0, 0);
            }
            CHECK.table("all stay", base, 1, row(1), row(2), row(3), row(4), row(5));
            CHECK.table("the next table too", base, 2);
            CHECK.table("the table before too", base, 0);
            base.unbind(1, 2);
            CHECK.due("update of the last", ask(base, 1, 4), 1);
            int[] last = row(5);
            last[column] = 99;
            CHECK.table("one cell changes", base, 1, row(1), row(2), row(3), row(4), last);
        }
    }

    private static void givesZeroAboveOthers() {
        CHECK.sentence("Terms", "gives 0 if there is none .. gives 0 if there is no such row");
        TriggerBase base = withRows(1, 5);
        define(base, Words.PUSH, 100, Words.LOAD, 0, Words.DELETE, 1, Words.SUBTRACT, Words.RETURN);
        define(base, Words.PUSH, 100, Words.LOAD, 0, Words.PUSH, 9, Words.UPDATE, 1, 0, Words.SUBTRACT, Words.RETURN);
        define(base, Words.PUSH, 100, Words.LOAD, 0, Words.READ, 1, 0, Words.SUBTRACT, Words.RETURN);
        define(base, Words.PUSH, 100, Words.LOAD, 0, Words.PUSH, 1, Words.FIND, 1, 0, Words.SUBTRACT, Words.RETURN);
        for (int none : new int[] {-1, 5, 16}) {
            CHECK.due("delete of " + none, ask(base, 1, none), 100);
            CHECK.due("update of " + none, ask(base, 2, none), 100);
            CHECK.due("read of " + none, ask(base, 3, none), 100);
            CHECK.due("find from " + none, ask(base, 4, none), none < 0 ? 100 : 101);
        }
        CHECK.due("read of the last", ask(base, 3, 4), 95);
        CHECK.due("update of the last", ask(base, 2, 4), 99);
        CHECK.due("delete of the last", ask(base, 1, 4), 99);
    }

    private static void findsFromZeroOn() {
        CHECK.sentence("Terms", "21 t c: .. the least row from r on (from 0 on, if r is below 0)");
        TriggerBase base = withRows(0, 0);
        for (int first : new int[] {6, 5, 6, 5, 6}) {
            ask(base, 0, first);
        }
        int[] from = {MIN, -2, -1, 0, 1, 2, 3, 4};
        int[] sixes = {0, 0, 0, 0, 2, 2, 4, 4};
        int[] fives = {1, 1, 1, 1, 1, 3, 3, -1};
        define(base, Words.LOAD, 0, Words.PUSH, 6, Words.FIND, 0, 0, Words.RETURN);
        define(base, Words.LOAD, 0, Words.PUSH, 50, Words.FIND, 0, 1, Words.RETURN);
        define(base, Words.LOAD, 0, Words.PUSH, -6, Words.FIND, 0, 2, Words.RETURN);
        for (int i = 0; i < from.length; i++) {
            CHECK.due("column 0 from " + from[i], ask(base, 1, from[i]), sixes[i]);
            CHECK.due("column 1 from " + from[i], ask(base, 2, from[i]), fives[i]);
            CHECK.due("column 2 from " + from[i], ask(base, 3, from[i]), sixes[i]);
        }
        TriggerBase full = withRows(3, 16);
        define(full, Words.LOAD, 0, Words.PUSH, 16, Words.FIND, 3, 0, Words.RETURN);
        CHECK.due("the last of sixteen", ask(full, 1, 15), 15);
        CHECK.due("the last of sixteen", ask(full, 1, -1), 15);
    }

    private static void findsNone() {
        CHECK.sentence("Terms", "21 t c: .. -1 if there is none");
        TriggerBase base = withRows(1, 5);
        define(base, Words.LOAD, 0, Words.PUSH, 5, Words.FIND, 1, 0, Words.RETURN);
        for (int r : new int[] {5, 6, 15, 16, MAX}) {
            CHECK.due("from " + r, ask(base, 1, r), -1);
        }
        define(base, Words.PUSH, 0, Words.LOAD, 0, Words.FIND, 1, 0, Words.RETURN);
        // 0 stands in no row, 10 and -1 only in other columns.
        for (int a : new int[] {0, 6, 10, -1, MIN, MAX}) {
            CHECK.due("find of " + a, ask(base, 2, a), -1);
        }
        define(base, Words.PUSH, 0, Words.LOAD, 0, Words.FIND, 0, 0, Words.RETURN);
        CHECK.due("an empty table", ask(base, 3, 1), -1);
        CHECK.due("0 in an empty table", ask(base, 3, 0), -1);
        define(base, Words.PUSH, 4, Words.DELETE, 1, Words.RETURN);
        ask(base, 4, 0);
        CHECK.due("a row that went", ask(base, 2, 5), -1);
    }

    private static void raisesAndReturns() {
        CHECK.sentence("Terms", "25: takes a: RAISES a. 26: takes a, the procedure returns it");
        TriggerBase base = new TriggerBase();
        define(base, Words.PUSH, 1, Words.LOAD, 0, Words.RAISE);
        define(base, Words.PUSH, 1, Words.LOAD, 0, Words.RETURN);
        for (int a : new int[] {MIN, -1, 0, 1, MAX}) {
            CHECK.due("raise", base.call(0, a, 100), 1);
            CHECK.due("raised", base.value(), a);
            CHECK.due("return", base.call(1, a, 100), 0);
            CHECK.due("returned", base.value(), a);
        }
    }
}
