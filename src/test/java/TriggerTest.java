/** Promises 6 and 7: setting and taking away triggers, and what firing them does. */
public final class TriggerTest {
    private static final Check CHECK = new Check("TriggerTest");

    public static void main(String[] args) {
        bindAnswers();
        unbindAnswers();
        firesForItsTableAndEventOnly();
        insertTrigger();
        deleteTrigger();
        updateTrigger();
        bindAnew();
        rowsAreAsTheyWereWhenFired();
        calledFromTrigger();
        givesItsNumberAfterAll();
        triggersFireTriggers();
        raiseInTrigger();
        nothingStaysOfATrigger();
        CHECK.finish();
    }

    private static void bindAnswers() {
        TriggerBase base = new TriggerBase();
        CHECK.due("no procedure yet", base.bind(0, 0, 0), 3);
        Check.define(base, Words.PUSH, 1, Words.RETURN);
        for (int bad : new int[] {-1, 4, Integer.MIN_VALUE, Integer.MAX_VALUE}) {
            CHECK.due("table " + bad, base.bind(bad, 0, 0), 1);
            CHECK.due("table first", base.bind(bad, 9, 9), 1);
        }
        for (int bad : new int[] {-1, 3, Integer.MIN_VALUE, Integer.MAX_VALUE}) {
            CHECK.due("event " + bad, base.bind(0, bad, 0), 2);
            CHECK.due("event second", base.bind(0, bad, 9), 2);
        }
        for (int bad : new int[] {-1, 1, 12, Integer.MIN_VALUE, Integer.MAX_VALUE}) {
            CHECK.due("procedure " + bad, base.bind(0, 0, bad), 3);
        }
        for (int table = 0; table < 4; table++) {
            for (int event = 0; event < 3; event++) {
                CHECK.due("nothing was set", base.unbind(table, event), false);
                CHECK.due("bind", base.bind(table, event, 0), 0);
                CHECK.due("bind again", base.bind(table, event, 0), 0);
            }
        }
    }

    private static void unbindAnswers() {
        TriggerBase base = new TriggerBase();
        Check.define(base, Words.PUSH, 1, Words.RETURN);
        base.bind(3, 2, 0);
        CHECK.due("another event", base.unbind(3, 1), false);
        CHECK.due("another table", base.unbind(2, 2), false);
        CHECK.due("no such table", base.unbind(4, 2), false);
        CHECK.due("no such table", base.unbind(-1, 2), false);
        CHECK.due("no such table", base.unbind(Integer.MAX_VALUE, 2), false);
        CHECK.due("no such event", base.unbind(3, 3), false);
        CHECK.due("no such event", base.unbind(3, -1), false);
        CHECK.due("no such event", base.unbind(4, -1), false);
        CHECK.due("no such event", base.unbind(2, 5), false);
        CHECK.due("no such event", base.unbind(3, Integer.MIN_VALUE), false);
        base.bind(3, 2, 7);
        CHECK.due("it is there", base.unbind(3, 2), true);
        CHECK.due("it is gone", base.unbind(3, 2), false);
        base.bind(3, 2, 0);
        CHECK.due("it is there again", base.unbind(3, 2), true);
    }

    /**
     * Procedures: 0 inserts (7, 8, 9) into table 0, 1 deletes row local 0 there, 2 sets its column 1 to local 0,
     * 3 inserts (OLD 0, NEW 0, local 0) and then (OLD 1, NEW 1, OLD 2 * 100 + NEW 2) into table 1 and returns 55.
     */
    private static TriggerBase withProcedures() {
        TriggerBase base = new TriggerBase();
        CHECK.due("0", Check.define(base,
                Words.PUSH, 7, Words.PUSH, 8, Words.PUSH, 9, Words.INSERT, 0, Words.RETURN), 0);
        CHECK.due("1", Check.define(base, Words.LOAD, 0, Words.DELETE, 0, Words.RETURN), 0);
        CHECK.due("2", Check.define(base,
                Words.LOAD, 0, Words.LOAD, 0, Words.UPDATE, 0, 1, Words.RETURN), 0);
        CHECK.due("3", Check.define(base,
                Words.OLD, 0, Words.NEW, 0, Words.LOAD, 0, Words.INSERT, 1, Words.DROP,
                Words.OLD, 1, Words.NEW, 1,
                Words.OLD, 2, Words.PUSH, 100, Words.MULTIPLY, Words.NEW, 2, Words.ADD, Words.INSERT, 1, Words.DROP,
                Words.PUSH, 55, Words.RETURN), 0);
        return base;
    }

    private static void firesForItsTableAndEventOnly() {
        for (int table = 0; table < 4; table++) {
            for (int event = 0; event < 3; event++) {
                TriggerBase base = withProcedures();
                base.bind(table, event, 3);
                base.call(0, 0, 100);
                CHECK.due("insert", base.count(2), table == 0 && event == 0 ? 1 : 0);
                // A trigger of table 1's own inserts would go on firing itself.
                base.call(2, 0, 100);
                CHECK.due("update", base.count(2), table == 0 && event == 2 ? 1 : 0);
                base.call(1, 0, 100);
                CHECK.due("delete", base.count(2), table == 0 && event == 1 ? 1 : 0);
            }
        }
    }

    private static void insertTrigger() {
        TriggerBase base = withProcedures();
        base.call(0, 0, 100);
        base.bind(0, 0, 3);
        CHECK.due("insert", base.call(0, 0, 100), 0);
        CHECK.told("insert", base, 1, 5 + 16, 2, 1, 3);
        CHECK.table("insert", base, 0, new int[] {7, 8, 9}, new int[] {7, 8, 9});
        CHECK.table("insert trigger", base, 1, new int[] {0, 7, 1}, new int[] {0, 8, 9});
    }

    private static void deleteTrigger() {
        TriggerBase base = withProcedures();
        base.call(0, 0, 100);
        base.call(0, 0, 100);
        base.call(2, 1, 100);
        base.bind(0, 1, 3);
        CHECK.due("delete", base.call(1, 1, 100), 0);
        CHECK.told("delete", base, 1, 3 + 16, 2, 1, 3);
        CHECK.table("delete", base, 0, new int[] {7, 8, 9});
        CHECK.table("delete trigger", base, 1, new int[] {7, 0, 1}, new int[] {1, 0, 900});
        CHECK.due("delete none", base.call(1, 1, 100), 0);
        CHECK.told("delete none", base, 0, 3, 1, 0, 0);
    }

    private static void updateTrigger() {
        TriggerBase base = withProcedures();
        base.call(0, 0, 100);
        base.call(0, 0, 100);
        base.bind(0, 2, 3);
        CHECK.due("update", base.call(2, 1, 100), 0);
        CHECK.told("update", base, 1, 4 + 16, 2, 1, 3);
        CHECK.table("update", base, 0, new int[] {7, 8, 9}, new int[] {7, 1, 9});
        CHECK.table("update trigger", base, 1, new int[] {7, 7, 1}, new int[] {8, 1, 909});
        CHECK.due("update to the same", base.call(2, 1, 100), 0);
        CHECK.told("update to the same", base, 1, 4 + 16, 2, 1, 3);
        CHECK.due("update none", base.call(2, 2, 100), 0);
        CHECK.told("update none", base, 0, 4, 1, 0, 0);
    }

    private static void bindAnew() {
        TriggerBase base = withProcedures();
        Check.define(base, Words.PUSH, 4, Words.RAISE);
        base.bind(0, 0, 3);
        base.bind(0, 0, 4);
        CHECK.due("the later one fires", base.call(0, 0, 100), 1);
        CHECK.due("wrong bind keeps it", base.bind(0, 0, 5), 3);
        CHECK.due("the later one fires", base.call(0, 0, 100), 1);
        base.unbind(0, 0);
        CHECK.due("none fires", base.call(0, 0, 100), 0);
        CHECK.due("none fires", base.count(2), 0);
    }

    /** NEW and OLD do not follow what the trigger itself does to the row. */
    private static void rowsAreAsTheyWereWhenFired() {
        TriggerBase base = withProcedures();
        Check.define(base, Words.LOAD, 0, Words.PUSH, 70, Words.UPDATE, 0, 0, Words.DROP,
                Words.NEW, 0, Words.OLD, 0, Words.LOAD, 0, Words.READ, 0, 0, Words.INSERT, 2, Words.RETURN);
        base.bind(0, 0, 4);
        CHECK.due("insert", base.call(0, 0, 100), 0);
        CHECK.table("rows when fired", base, 2, new int[] {7, 0, 70});
        CHECK.table("row at last", base, 0, new int[] {70, 8, 9});
    }

    private static void calledFromTrigger() {
        TriggerBase base = withProcedures();
        Check.define(base, Words.LOAD, 0, Words.CALL, 3, Words.DROP, Words.NEW, 1, Words.RETURN);
        Check.define(base, Words.NEW, 0, Words.LOAD, 0, Words.CALL, 4, Words.DROP, Words.NEW, 0, Words.LOAD, 0,
                Words.INSERT, 2, Words.RETURN);
        base.bind(0, 0, 5);
        CHECK.due("insert", base.call(0, 0, 100), 0);
        CHECK.due("frames", base.count(1), 4);
        CHECK.due("triggers", base.count(2), 1);
        CHECK.table("OLD and NEW of a called one are 0", base, 1, new int[] {0, 0, 0}, new int[] {0, 0, 0});
        CHECK.table("those of the trigger stay", base, 2, new int[] {7, 7, 0});
    }

    private static void givesItsNumberAfterAll() {
        TriggerBase base = withProcedures();
        Check.define(base, Words.LOAD, 0, Words.DELETE, 0, Words.PUSH, 44, Words.RETURN);
        base.call(0, 0, 100);
        base.bind(0, 0, 4);
        CHECK.due("insert that its trigger deletes", base.call(0, 0, 100), 0);
        CHECK.told("its number", base, 1, 9, 2, 1, 2);
        CHECK.due("rows", base.rows(0), 1);
        base.unbind(0, 0);
        base.bind(0, 2, 4);
        CHECK.due("update that its trigger deletes", base.call(2, 0, 100), 0);
        CHECK.told("update gives 1", base, 1, 8, 2, 1, 2);
        CHECK.due("rows", base.rows(0), 0);
    }

    private static void triggersFireTriggers() {
        TriggerBase base = new TriggerBase();
        for (int table = 1; table < 4; table++) {
            Check.define(base, Words.NEW, 0, Words.PUSH, 1, Words.ADD, Words.OLD, 0, Words.LOAD, 0,
                    Words.INSERT, table, Words.RETURN);
            base.bind(table - 1, 0, table - 1);
        }
        Check.define(base, Words.LOAD, 0, Words.COPY, Words.COPY, Words.INSERT, 0, Words.RETURN);
        CHECK.due("call", base.call(3, 5, 100), 0);
        CHECK.told("chain", base, 0, 5 + 21, 4, 3, 4);
        CHECK.table("chain", base, 0, new int[] {5, 5, 5});
        CHECK.table("chain", base, 1, new int[] {6, 0, 0});
        CHECK.table("chain", base, 2, new int[] {7, 0, 0});
        CHECK.table("chain", base, 3, new int[] {8, 0, 0});
    }

    private static void raiseInTrigger() {
        TriggerBase base = withProcedures();
        Check.define(base, Words.NEW, 2, Words.RAISE);
        base.call(0, 0, 100);
        base.bind(0, 0, 4);
        CHECK.due("insert", base.call(0, 0, 100), 1);
        CHECK.told("raised in a trigger", base, 9, 6, 2, 1, 1);
        CHECK.table("taken back", base, 0, new int[] {7, 8, 9});
        CHECK.due("the trigger stays", base.unbind(0, 0), true);
    }

    /** A run in the same depth as a trigger before it has none of its rows, and gives its own value. */
    private static void nothingStaysOfATrigger() {
        TriggerBase base = withProcedures();
        Check.define(base, Words.OLD, 0, Words.PUSH, 10, Words.MULTIPLY, Words.NEW, 0, Words.ADD,
                Words.PUSH, 300, Words.ADD, Words.RETURN);
        Check.define(base, Words.PUSH, 0, Words.PUSH, 6, Words.UPDATE, 0, 0, Words.DROP,
                Words.PUSH, 0, Words.CALL, 4, Words.RETURN);
        base.call(0, 0, 100);
        base.bind(0, 2, 3);
        CHECK.due("update, then a call", base.call(5, 0, 100), 0);
        CHECK.told("update, then a call", base, 300, 4 + 16 + 3 + 8, 2, 1, 3);
        base.unbind(0, 2);
        CHECK.due("a call without a trigger", base.call(4, 0, 100), 0);
        CHECK.due("OLD and NEW are 0", base.value(), 300);
        insertAfterUpdateHasNoOld(base);
    }

    private static void insertAfterUpdateHasNoOld(TriggerBase base) {
        base.bind(0, 0, 3);
        base.call(2, 0, 100);
        CHECK.due("insert after update", base.call(0, 0, 100), 0);
        CHECK.due("OLD of an insert", base.cell(1, 2, 0), 0);
        CHECK.due("NEW of an insert", base.cell(1, 2, 1), 7);
        base.bind(0, 1, 3);
        CHECK.due("delete after insert", base.call(1, 0, 100), 0);
        CHECK.due("OLD of a delete", base.cell(1, 4, 0), 6);
        CHECK.due("NEW of a delete", base.cell(1, 4, 1), 0);
        CHECK.due("insert after delete", base.call(0, 0, 100), 0);
        CHECK.due("OLD of an insert", base.cell(1, 6, 0), 0);
        CHECK.due("NEW of an insert", base.cell(1, 6, 1), 7);
    }
}
