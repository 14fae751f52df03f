/** Promises 8 to 12: how calls end, what is told of them, and the tables they leave. */
public final class CallTest {
    private static final Check CHECK = new Check("CallTest");

    public static void main(String[] args) {
        fuel();
        fuelInFrames();
        fuelBounds();
        none();
        raised();
        zero();
        deepByCalls();
        deepByTriggers();
        room();
        takenBackWhole();
        toldAnew();
        wrongCounts();
        rowsAndCells();
        CHECK.finish();
    }

    private static void fuel() {
        TriggerBase base = new TriggerBase();
        Check.define(base, Words.PUSH, 1, Words.PUSH, 2, Words.ADD, Words.RETURN);
        CHECK.due("just enough", base.call(0, 0, 4), 0);
        CHECK.told("just enough", base, 3, 4, 1, 0, 0);
        CHECK.due("one too little", base.call(0, 0, 3), 3);
        CHECK.told("one too little", base, 0, 3, 1, 0, 0);
        CHECK.due("more than enough", base.call(0, 0, 5), 0);
        CHECK.told("more than enough", base, 3, 4, 1, 0, 0);
        for (int fuel : new int[] {0, -1, Integer.MIN_VALUE}) {
            CHECK.due("no fuel", base.call(0, 0, fuel), 3);
            CHECK.told("no fuel", base, 0, 0, 1, 0, 0);
        }
    }

    private static void fuelInFrames() {
        TriggerBase base = new TriggerBase();
        Check.define(base, Words.LOAD, 0, Words.RETURN);
        Check.define(base, Words.LOAD, 0, Words.CALL, 0, Words.COPY, Words.COPY, Words.INSERT, 0, Words.RETURN);
        base.bind(0, 0, 0);
        CHECK.due("just enough", base.call(1, 6, 10), 0);
        CHECK.told("just enough", base, 0, 10, 2, 1, 1);
        int[] frames = {1, 1, 2, 2, 2, 2, 2, 2, 2, 2};
        for (int fuel = 0; fuel < 10; fuel++) {
            CHECK.due("too little", base.call(1, 6, fuel), 3);
            int fired = fuel >= 7 ? 1 : 0;
            CHECK.told("fuel " + fuel, base, 0, fuel, frames[fuel], fired, fired);
            CHECK.due("taken back", base.rows(0), 1);
        }
    }

    private static void fuelBounds() {
        TriggerBase base = new TriggerBase();
        Check.define(base, Words.JUMP, 0);
        for (int fuel : new int[] {1999, 2000}) {
            CHECK.due("loop", base.call(0, 0, fuel), 3);
            CHECK.due("loop's fuel", base.count(0), fuel);
        }
        for (int fuel : new int[] {2001, Integer.MAX_VALUE}) {
            CHECK.due("loop", base.call(0, 0, fuel), 3);
            CHECK.due("loop's fuel at most", base.count(0), 2000);
        }
    }

    private static void none() {
        TriggerBase base = new TriggerBase();
        Check.define(base, Words.PUSH, 5, Words.RETURN);
        for (int procedure : new int[] {1, -1, 12, Integer.MIN_VALUE, Integer.MAX_VALUE}) {
            base.call(0, 0, 100);
            CHECK.due("none", base.call(procedure, 0, 100), 6);
            CHECK.told("none", base, 0, 0, 0, 0, 0);
            CHECK.due("none without fuel", base.call(procedure, 0, 0), 6);
        }
    }

    private static void raised() {
        TriggerBase base = new TriggerBase();
        Check.define(base, Words.LOAD, 0, Words.RAISE);
        Check.define(base, Words.LOAD, 0, Words.CALL, 0, Words.RETURN);
        CHECK.due("raised", base.call(0, -3, 100), 1);
        CHECK.told("raised", base, -3, 2, 1, 0, 0);
        CHECK.due("raised 0", base.call(0, 0, 100), 1);
        CHECK.told("raised 0", base, 0, 2, 1, 0, 0);
        CHECK.due("raised within", base.call(1, 4, 100), 1);
        CHECK.told("raised within", base, 4, 4, 2, 0, 0);
    }

    private static void zero() {
        for (int word : new int[] {Words.DIVIDE, Words.REMAINDER}) {
            TriggerBase base = new TriggerBase();
            Check.define(base, Words.PUSH, 9, Words.LOAD, 0, word, Words.RETURN);
            Check.define(base, Words.LOAD, 0, Words.CALL, 0, Words.RETURN);
            CHECK.due("not by 0", base.call(0, 2, 100), 0);
            CHECK.due("by 0", base.call(0, 0, 100), 2);
            CHECK.told("by 0", base, 0, 3, 1, 0, 0);
            CHECK.due("by 0 within", base.call(1, 0, 100), 2);
            CHECK.told("by 0 within", base, 0, 5, 2, 0, 0);
            CHECK.due("fuel goes first", base.call(0, 0, 2), 3);
        }
    }

    /** Procedure n calls procedure n - 1, so that procedure n needs n + 1 frames. */
    private static void deepByCalls() {
        TriggerBase base = new TriggerBase();
        Check.define(base, Words.LOAD, 0, Words.RETURN);
        for (int i = 0; i < 8; i++) {
            Check.define(base, Words.LOAD, 0, Words.PUSH, 1, Words.ADD, Words.CALL, i, Words.RETURN);
        }
        CHECK.due("eight frames", base.call(7, 100, 2000), 0);
        CHECK.told("eight frames", base, 107, 37, 8, 0, 0);
        CHECK.due("nine frames", base.call(8, 100, 2000), 4);
        CHECK.told("nine frames", base, 0, 32, 8, 0, 0);
        CHECK.due("nine frames, fuel to the call", base.call(8, 100, 32), 4);
        CHECK.due("nine frames, fuel before the call", base.call(8, 100, 31), 3);
        CHECK.due("frames one behind another", base.call(7, 1, 2000), 0);
    }

    private static void deepByTriggers() {
        TriggerBase base = new TriggerBase();
        Check.define(base, Words.LOAD, 0, Words.LOAD, 0, Words.LOAD, 0, Words.INSERT, 1, Words.RETURN);
        CHECK.due("not bound", base.call(0, 9, 100), 0);
        base.bind(1, 0, 0);
        CHECK.due("deep", base.call(0, 9, 100), 4);
        CHECK.told("deep", base, 0, 32, 8, 7, 8);
        CHECK.table("taken back", base, 1, new int[] {9, 9, 9});
        CHECK.due("fuel before deep", base.call(0, 9, 31), 3);
        CHECK.told("fuel before deep", base, 0, 31, 8, 7, 7);
    }

    private static void room() {
        TriggerBase base = new TriggerBase();
        Check.define(base, Words.LOAD, 0, Words.PUSH, 2, Words.PUSH, 3, Words.INSERT, 3, Words.RETURN);
        Check.define(base, Words.LOAD, 0, Words.DELETE, 3, Words.RETURN);
        for (int i = 0; i < 16; i++) {
            CHECK.due("insert " + i, base.call(0, i, 100), 0);
            CHECK.due("number " + i, base.value(), i);
        }
        CHECK.due("no room", base.call(0, 99, 100), 5);
        CHECK.told("no room", base, 0, 4, 1, 0, 0);
        CHECK.due("rows", base.rows(3), 16);
        CHECK.due("last cell", base.cell(3, 15, 0), 15);
        base.call(1, 15, 100);
        CHECK.due("last row gone", base.rows(3), 15);
        CHECK.due("room again", base.call(0, 77, 100), 0);
        base.call(1, 0, 100);
        CHECK.due("moved up", base.cell(3, 14, 0), 77);
        CHECK.due("moved up", base.cell(3, 0, 0), 1);
        CHECK.due("nothing behind", base.cell(3, 15, 0), 0);
        CHECK.due("fuel goes first", base.call(0, 1, 3), 3);
    }

    /** One call inserts, deletes and updates in all tables and then raises its argument, unless it is 0. */
    private static void takenBackWhole() {
        TriggerBase base = new TriggerBase();
        for (int table = 0; table < 4; table++) {
            Check.define(base, Words.LOAD, 0, Words.COPY, Words.COPY, Words.INSERT, table, Words.RETURN);
            base.call(table, table, 100);
            base.call(table, 10 + table, 100);
        }
        for (int table = 0; table < 4; table++) {
            CHECK.due("changes", Check.define(base, Words.PUSH, 0, Words.DELETE, table, Words.DROP,
                    Words.PUSH, 0, Words.PUSH, 5, Words.UPDATE, table, 1, Words.DROP,
                    Words.LOAD, 0, Words.CALL, table, Words.RETURN), 0);
        }
        CHECK.due("all", Check.define(base, Words.PUSH, 1, Words.CALL, 4, Words.CALL, 5, Words.CALL, 6, Words.CALL, 7,
                Words.DROP, Words.LOAD, 0, Words.JUMP_IF_ZERO, 18, Words.LOAD, 0, Words.RAISE,
                Words.PUSH, 6, Words.RETURN), 0);
        CHECK.due("raised", base.call(8, 3, 500), 1);
        CHECK.due("changes taken back count", base.count(3), 12);
        for (int table = 0; table < 4; table++) {
            int second = 10 + table;
            CHECK.table("taken back", base, table,
                    new int[] {table, table, table}, new int[] {second, second, second});
        }
        CHECK.due("out of fuel", base.call(8, 0, 60), 3);
        CHECK.due("rows as before", base.rows(0), 2);
        CHECK.due("cells as before", base.cell(0, 1, 1), 10);
        CHECK.due("done", base.call(8, 0, 500), 0);
        CHECK.due("changes count", base.count(3), 12);
        for (int table = 0; table < 4; table++) {
            int second = 10 + table;
            CHECK.table("stays", base, table, new int[] {second, 5, second}, new int[] {1, 1, 1});
        }
        CHECK.due("only the latest call is taken back", base.call(8, 3, 500), 1);
        CHECK.table("stays", base, 3, new int[] {13, 5, 13}, new int[] {1, 1, 1});
    }

    private static void toldAnew() {
        TriggerBase base = new TriggerBase();
        Check.define(base, Words.PUSH, 1, Words.COPY, Words.COPY, Words.INSERT, 0, Words.DROP,
                Words.PUSH, 9, Words.RETURN);
        Check.define(base, Words.PUSH, 2, Words.RETURN);
        base.bind(0, 0, 1);
        base.call(0, 0, 100);
        CHECK.told("first", base, 9, 9, 2, 1, 1);
        CHECK.told("asked again", base, 9, 9, 2, 1, 1);
        base.begin();
        base.end();
        base.bind(0, 0, 9);
        base.unbind(1, 1);
        CHECK.told("other calls between", base, 9, 9, 2, 1, 1);
        base.call(1, 0, 100);
        CHECK.told("second", base, 2, 2, 1, 0, 0);
        base.call(1, 0, 1);
        CHECK.told("third", base, 0, 1, 1, 0, 0);
    }

    private static void wrongCounts() {
        TriggerBase base = new TriggerBase();
        for (int what : new int[] {-1, 4, Integer.MIN_VALUE, Integer.MAX_VALUE}) {
            CHECK.due("count before", base.count(what), -1);
        }
        Check.define(base, Words.PUSH, 2, Words.RETURN);
        base.call(0, 0, 9);
        for (int what : new int[] {-1, 4, Integer.MIN_VALUE, Integer.MAX_VALUE}) {
            CHECK.due("count after", base.count(what), -1);
        }
    }

    private static void rowsAndCells() {
        TriggerBase base = new TriggerBase();
        for (int table = 0; table < 4; table++) {
            Check.define(base, Words.PUSH, 4 + table, Words.PUSH, 5, Words.PUSH, Integer.MIN_VALUE,
                    Words.INSERT, table, Words.RETURN);
            base.call(table, 0, 100);
            CHECK.table("cells", base, table, new int[] {4 + table, 5, Integer.MIN_VALUE});
        }
        for (int bad : new int[] {-1, 4, Integer.MIN_VALUE, Integer.MAX_VALUE}) {
            CHECK.due("no such table", base.rows(bad), -1);
            CHECK.due("no such table", base.cell(bad, 0, 0), 0);
            CHECK.due("no such row", base.cell(1, bad, 0), 0);
            CHECK.due("no such column", base.cell(1, 0, bad), 0);
        }
        CHECK.due("no such row", base.cell(0, 1, 0), 0);
        CHECK.due("no such row", base.cell(0, 16, 0), 0);
        CHECK.due("no such row", base.cell(1, -16, 0), 0);
        CHECK.due("no such column", base.cell(1, 0, 3), 0);
        CHECK.due("no such column", base.cell(1, 1, -1), 0);
    }
}
