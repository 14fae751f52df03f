/** Promise 8 and the terms: what each instruction takes, does and gives. */
public final class InstructionTest {
    private static final int MIN = Integer.MIN_VALUE;
    private static final int MAX = Integer.MAX_VALUE;
    private static final Check CHECK = new Check("InstructionTest");

    public static void main(String[] args) {
        stack();
        arithmetic();
        comparisons();
        locals();
        jumps();
        tables();
        find();
        deletes();
        updates();
        oldAndNewOutsideTriggers();
        calls();
        stackIsNewInEachRun();
        CHECK.finish();
    }

    private static void stack() {
        CHECK.due("push", CHECK.returned("push", 0, Words.PUSH, -9, Words.RETURN), -9);
        CHECK.due("drop", CHECK.returned("drop", 0, Words.PUSH, 1, Words.PUSH, 2, Words.DROP, Words.RETURN), 1);
        CHECK.due("copy", CHECK.returned("copy", 0,
                Words.PUSH, 5, Words.PUSH, 7, Words.COPY, Words.ADD, Words.RETURN), 14);
        CHECK.due("swap", CHECK.returned("swap", 0,
                Words.PUSH, 5, Words.PUSH, 7, Words.SWAP, Words.RETURN), 5);
        CHECK.due("swap below", CHECK.returned("swap below", 0,
                Words.PUSH, 5, Words.PUSH, 7, Words.SWAP, Words.DROP, Words.RETURN), 7);
        CHECK.due("return of the topmost", CHECK.returned("return", 0,
                Words.PUSH, 5, Words.PUSH, 7, Words.PUSH, 8, Words.RETURN), 8);
    }

    private static void two(int word, int a, int b, int want) {
        String what = "instruction " + word + " of " + a + ", " + b;
        CHECK.due(what, CHECK.returned(what, 0, Words.PUSH, a, Words.PUSH, b, word, Words.RETURN), want);
    }

    private static void arithmetic() {
        two(Words.ADD, 5, 3, 8);
        two(Words.ADD, MAX, 1, MIN);
        two(Words.SUBTRACT, 5, 3, 2);
        two(Words.SUBTRACT, 3, 5, -2);
        two(Words.SUBTRACT, MIN, 1, MAX);
        two(Words.MULTIPLY, -4, 6, -24);
        two(Words.MULTIPLY, 65536, 65536, 0);
        two(Words.MULTIPLY, MAX, 2, -2);
        two(Words.DIVIDE, 17, 5, 3);
        two(Words.DIVIDE, -17, 5, -3);
        two(Words.DIVIDE, 17, -5, -3);
        two(Words.DIVIDE, MIN, -1, MIN);
        two(Words.DIVIDE, 0, 5, 0);
        two(Words.REMAINDER, 17, 5, 2);
        two(Words.REMAINDER, -17, 5, -2);
        two(Words.REMAINDER, 17, -5, 2);
        two(Words.REMAINDER, MIN, -1, 0);
    }

    private static void comparisons() {
        two(Words.LESS, 2, 3, 1);
        two(Words.LESS, 3, 3, 0);
        two(Words.LESS, 3, 2, 0);
        two(Words.LESS, MIN, MAX, 1);
        two(Words.LESS, MAX, MIN, 0);
        two(Words.SAME, 2, 3, 0);
        two(Words.SAME, 3, 3, 1);
        two(Words.SAME, 3, 2, 0);
        two(Words.SAME, 1000, 1000, 1);
        for (int a : new int[] {0, 1, -1, 2, MIN}) {
            int got = CHECK.returned("not", a, Words.LOAD, 0, Words.NOT, Words.RETURN);
            CHECK.due("not of " + a, got, a == 0 ? 1 : 0);
        }
    }

    private static void locals() {
        CHECK.due("local 0", CHECK.returned("local 0", 42, Words.LOAD, 0, Words.RETURN), 42);
        for (int local = 1; local < 8; local++) {
            CHECK.due("local " + local, CHECK.returned("local", 42, Words.LOAD, local, Words.RETURN), 0);
            int got = CHECK.returned("store", 42,
                    Words.PUSH, 6, Words.STORE, local, Words.LOAD, local, Words.LOAD, 0, Words.MULTIPLY, Words.RETURN);
            CHECK.due("store into " + local, got, 252);
        }
        CHECK.due("store takes", CHECK.returned("store takes", 42,
                Words.PUSH, 1, Words.PUSH, 6, Words.STORE, 0, Words.LOAD, 0, Words.ADD, Words.RETURN), 7);
        localsAreNewInEachRun();
    }

    private static void localsAreNewInEachRun() {
        TriggerBase base = new TriggerBase();
        Check.define(base, Words.LOAD, 7, Words.PUSH, 5, Words.STORE, 7, Words.RETURN);
        for (int i = 0; i < 3; i++) {
            base.call(0, 1, 10);
            CHECK.due("local 7 of a new run", base.value(), 0);
        }
    }

    private static void jumps() {
        CHECK.due("jump", CHECK.returned("jump", 0,
                Words.PUSH, 1, Words.JUMP, 6, Words.PUSH, 2, Words.RETURN), 1);
        int[] branch = {Words.LOAD, 0, Words.JUMP_IF_ZERO, 7, Words.PUSH, 3, Words.RETURN, Words.PUSH, 4, Words.RETURN};
        CHECK.due("branch of 0", CHECK.returned("branch", 0, branch), 4);
        CHECK.due("branch of 1", CHECK.returned("branch", 1, branch), 3);
        CHECK.due("branch of -1", CHECK.returned("branch", -1, branch), 3);
        // Adds up local 0 down to 1.
        int[] loop = {
            Words.LOAD, 0, Words.JUMP_IF_ZERO, 20,
            Words.LOAD, 1, Words.LOAD, 0, Words.ADD, Words.STORE, 1,
            Words.LOAD, 0, Words.PUSH, 1, Words.SUBTRACT, Words.STORE, 0, Words.JUMP, 0,
            Words.LOAD, 1, Words.RETURN};
        CHECK.due("loop back", CHECK.returned("loop", 10, loop), 55);
    }

    /** Procedure 0 inserts the argument, it + 1 and it + 2 into table 2. */
    private static TriggerBase withRows(int... firsts) {
        TriggerBase base = new TriggerBase();
        Check.define(base, Words.LOAD, 0, Words.LOAD, 0, Words.PUSH, 1, Words.ADD,
                Words.LOAD, 0, Words.PUSH, 2, Words.ADD, Words.INSERT, 2, Words.RETURN);
        for (int i = 0; i < firsts.length; i++) {
            CHECK.due("insert", base.call(0, firsts[i], 100), 0);
            CHECK.due("number of the inserted", base.value(), i);
        }
        return base;
    }

    private static int ask(TriggerBase base, int procedure, int argument) {
        CHECK.due("ask " + procedure, base.call(procedure, argument, 100), 0);
        return base.value();
    }

    private static void tables() {
        TriggerBase base = withRows(10, 20, 30);
        Check.define(base, Words.SIZE, 2, Words.RETURN);
        Check.define(base, Words.SIZE, 1, Words.RETURN);
        Check.define(base, Words.LOAD, 0, Words.READ, 2, 1, Words.RETURN);
        Check.define(base, Words.LOAD, 0, Words.READ, 2, 2, Words.RETURN);
        CHECK.due("size", ask(base, 1, 0), 3);
        CHECK.due("size of another", ask(base, 2, 0), 0);
        CHECK.due("read", ask(base, 3, 1), 21);
        CHECK.due("read another column", ask(base, 4, 2), 32);
        CHECK.due("read behind", ask(base, 3, 3), 0);
        CHECK.due("read below", ask(base, 3, -1), 0);
        CHECK.due("read far off", ask(base, 3, MAX), 0);
        CHECK.due("read far below", ask(base, 3, MIN), 0);
        CHECK.table("inserted", base, 2, new int[] {10, 11, 12}, new int[] {20, 21, 22}, new int[] {30, 31, 32});
    }

    private static void find() {
        TriggerBase base = withRows(7, 5, 7, 5);
        Check.define(base, Words.LOAD, 0, Words.PUSH, 7, Words.FIND, 2, 0, Words.RETURN);
        Check.define(base, Words.PUSH, 1, Words.LOAD, 0, Words.FIND, 2, 2, Words.RETURN);
        int[] starts = {MIN, -1, 0, 1, 2, 3, 4, 16, MAX};
        int[] wants = {0, 0, 0, 2, 2, -1, -1, -1, -1};
        for (int i = 0; i < starts.length; i++) {
            CHECK.due("find from " + starts[i], ask(base, 1, starts[i]), wants[i]);
        }
        CHECK.due("find in column 2", ask(base, 2, 7), 1);
        CHECK.due("find behind the first", ask(base, 2, 9), 2);
        CHECK.due("find none", ask(base, 2, 5), -1);
        CHECK.due("find 0 in no row", ask(base, 2, 0), -1);
        // A row that has gone is not found, though nothing was written over it.
        Check.define(base, Words.LOAD, 0, Words.DELETE, 2, Words.RETURN);
        ask(base, 3, 3);
        ask(base, 3, 2);
        CHECK.due("find what has gone", ask(base, 1, 1), -1);
    }

    private static void deletes() {
        TriggerBase base = withRows(10, 20, 30, 40);
        Check.define(base, Words.LOAD, 0, Words.DELETE, 2, Words.RETURN);
        CHECK.due("delete", ask(base, 1, 1), 1);
        CHECK.told("delete", base, 1, 3, 1, 0, 1);
        CHECK.table("deleted", base, 2, new int[] {10, 11, 12}, new int[] {30, 31, 32}, new int[] {40, 41, 42});
        CHECK.due("delete the last", ask(base, 1, 2), 1);
        CHECK.table("deleted last", base, 2, new int[] {10, 11, 12}, new int[] {30, 31, 32});
        Check.define(base, Words.PUSH, 5, Words.LOAD, 0, Words.DELETE, 2, Words.SUBTRACT, Words.RETURN);
        CHECK.due("delete none gives 0", ask(base, 2, 2), 5);
        for (int none : new int[] {2, -1, 16, MIN, MAX}) {
            CHECK.due("delete none", ask(base, 1, none), 0);
            CHECK.told("delete none", base, 0, 3, 1, 0, 0);
        }
        CHECK.due("delete the first", ask(base, 1, 0), 1);
        CHECK.table("deleted first", base, 2, new int[] {30, 31, 32});
        CHECK.due("insert after it", ask(base, 0, 50), 1);
        CHECK.table("inserted after it", base, 2, new int[] {30, 31, 32}, new int[] {50, 51, 52});
    }

    private static void updates() {
        TriggerBase base = withRows(10, 20);
        Check.define(base, Words.LOAD, 0, Words.PUSH, 99, Words.UPDATE, 2, 1, Words.RETURN);
        CHECK.due("update", ask(base, 1, 1), 1);
        CHECK.told("update", base, 1, 4, 1, 0, 1);
        CHECK.table("updated", base, 2, new int[] {10, 11, 12}, new int[] {20, 99, 22});
        CHECK.due("update to the same", ask(base, 1, 1), 1);
        CHECK.told("update to the same", base, 1, 4, 1, 0, 1);
        Check.define(base, Words.PUSH, 5, Words.LOAD, 0, Words.PUSH, 9, Words.UPDATE, 2, 0, Words.SUBTRACT,
                Words.RETURN);
        CHECK.due("update none gives 0", ask(base, 2, 2), 5);
        for (int none : new int[] {2, -1, 16, MIN, MAX}) {
            CHECK.due("update none", ask(base, 1, none), 0);
            CHECK.told("update none", base, 0, 4, 1, 0, 0);
        }
        CHECK.table("not updated", base, 2, new int[] {10, 11, 12}, new int[] {20, 99, 22});
    }

    private static void oldAndNewOutsideTriggers() {
        for (int column = 0; column < 3; column++) {
            CHECK.due("old", CHECK.returned("old", 8, Words.OLD, column, Words.RETURN), 0);
            CHECK.due("new", CHECK.returned("new", 8, Words.NEW, column, Words.RETURN), 0);
        }
    }

    private static void calls() {
        TriggerBase base = new TriggerBase();
        Check.define(base, Words.PUSH, 1, Words.LOAD, 0, Words.PUSH, 2, Words.MULTIPLY, Words.PUSH, 77, Words.STORE, 3,
                Words.RETURN);
        Check.define(base, Words.PUSH, 100, Words.LOAD, 0, Words.PUSH, 1, Words.ADD, Words.CALL, 0,
                Words.SUBTRACT, Words.LOAD, 3, Words.ADD, Words.RETURN);
        CHECK.due("a call gives the value", ask(base, 1, 5), 88);
        CHECK.told("a call", base, 88, 16, 2, 0, 0);
    }

    /** A run may end with numbers left on its stack: the next one starts without them. */
    private static void stackIsNewInEachRun() {
        TriggerBase base = new TriggerBase();
        CHECK.due("twelve numbers", Check.define(base, Words.PUSH, 1,
                Words.COPY, Words.COPY, Words.COPY, Words.COPY, Words.COPY,
                Words.COPY, Words.COPY, Words.COPY, Words.COPY, Words.COPY, Words.LOAD, 0, Words.RETURN), 0);
        CHECK.due("calls it", Check.define(base, Words.PUSH, 6, Words.LOAD, 0, Words.CALL, 0,
                Words.LOAD, 0, Words.CALL, 0, Words.ADD, Words.ADD, Words.RETURN), 0);
        for (int i = 0; i < 4; i++) {
            CHECK.due("twelve numbers", ask(base, 0, i), i);
            CHECK.due("calls it", ask(base, 1, i), 6 + 2 * i);
        }
    }
}
