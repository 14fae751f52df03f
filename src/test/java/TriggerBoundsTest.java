/** Promises 6 and 7 and "TRIGGERS": each sentence that names a boundary case, in the document's words. */
public final class TriggerBoundsTest {
    private static final int MIN = Integer.MIN_VALUE;
    private static final int MAX = Integer.MAX_VALUE;
    private static final Check CHECK = new Check("TriggerBoundsTest");

    public static void main(String[] args) {
        setsATrigger();
        setsItAnew();
        noSuchTable();
        noSuchEvent();
        noSuchProcedure();
        refusedBindChangesNothing();
        takesItAway();
        thereIsNone();
        eventsApart();
        firesAfterTheChange();
        firesForARowOnly();
        calledWithTheRowsNumber();
        oldAndNewOfInsert();
        oldAndNewOfDelete();
        oldAndNewOfUpdate();
        allZeroButInATrigger();
        returnDoesNotCount();
        onlyInstructionsFire();
        firesItself();
        CHECK.finish();
    }

    private static int ask(TriggerBase base, int procedure, int argument) {
        CHECK.due("call of " + procedure + " with " + argument, base.call(procedure, argument, 2000), 0);
        return base.value();
    }

    private static void define(TriggerBase base, int... words) {
        CHECK.due("end", Check.define(base, words), 0);
    }

    /**
     * Procedures: 0 inserts (its argument, 8, 9) into table 0, 1 deletes the row of its argument there, 2 makes that
     * row's column 0 become 70, 3 inserts (local 0, OLD 0, NEW 0) into table 1, 4 inserts (rows of table 0, OLD 2,
     * NEW 2) there.
     */
    private static TriggerBase withProcedures() {
        TriggerBase base = new TriggerBase();
        define(base, Words.LOAD, 0, Words.PUSH, 8, Words.PUSH, 9, Words.INSERT, 0, Words.RETURN);
        define(base, Words.LOAD, 0, Words.DELETE, 0, Words.RETURN);
        define(base, Words.LOAD, 0, Words.PUSH, 70, Words.UPDATE, 0, 0, Words.RETURN);
        define(base, Words.LOAD, 0, Words.OLD, 0, Words.NEW, 0, Words.INSERT, 1, Words.RETURN);
        define(base, Words.SIZE, 0, Words.OLD, 2, Words.NEW, 2, Words.INSERT, 1, Words.RETURN);
        return base;
    }

    private static void setsATrigger() {
        CHECK.sentence("Promise 6", "Sets a trigger: 0");
        TriggerBase base = new TriggerBase();
        for (int number = 0; number < 12; number++) {
            define(base, Words.PUSH, number, Words.RETURN);
        }
        for (int table = 0; table < 4; table++) {
            for (int event = 0; event < 3; event++) {
                CHECK.due("bind", base.bind(table, event, 3 * table + event), 0);
            }
        }
        for (int table = 0; table < 4; table++) {
            for (int event = 0; event < 3; event++) {
                CHECK.due("it is there", base.unbind(table, event), true);
            }
        }
    }

    private static void setsItAnew() {
        CHECK.sentence("Promise 6", "Sets a trigger: 0");
        TriggerBase base = withProcedures();
        CHECK.due("bind", base.bind(0, 0, 3), 0);
        CHECK.due("the same again", base.bind(0, 0, 3), 0);
        CHECK.due("another", base.bind(0, 0, 4), 0);
        ask(base, 0, 7);
        CHECK.due("one fires", base.count(2), 1);
        CHECK.table("the other one", base, 1, new int[] {1, 0, 9});
        CHECK.due("one is there", base.unbind(0, 0), true);
        CHECK.due("and no more", base.unbind(0, 0), false);
    }

    private static void noSuchTable() {
        CHECK.sentence("Promise 6", "1 no such table");
        TriggerBase base = withProcedures();
        for (int table : new int[] {MIN, -1, 4, 5, MAX}) {
            CHECK.due("table " + table, base.bind(table, 0, 0), 1);
            CHECK.due("table " + table + ", no event", base.bind(table, 3, 0), 1);
            CHECK.due("table " + table + ", no procedure", base.bind(table, 0, 5), 1);
            CHECK.due("table " + table + ", nothing", base.bind(table, -1, -1), 1);
        }
        CHECK.due("the first", base.bind(0, 0, 0), 0);
        CHECK.due("the last", base.bind(3, 0, 0), 0);
    }

    private static void noSuchEvent() {
        CHECK.sentence("Promise 6", "2 no such event");
        TriggerBase base = withProcedures();
        for (int event : new int[] {MIN, -1, 3, 4, MAX}) {
            for (int table = 0; table < 4; table++) {
                CHECK.due("event " + event, base.bind(table, event, 0), 2);
                CHECK.due("event " + event + ", no procedure", base.bind(table, event, -1), 2);
            }
        }
        CHECK.due("the first", base.bind(0, 0, 0), 0);
        CHECK.due("the last", base.bind(0, 2, 0), 0);
    }

    private static void noSuchProcedure() {
        CHECK.sentence("Promise 6", "3 no such procedure (that is there)");
        TriggerBase base = new TriggerBase();
        for (int number = 0; number < 12; number++) {
            CHECK.due("not there yet", base.bind(0, 0, number), 3);
            base.begin();
            CHECK.due("open", base.bind(0, 0, number), 3);
            base.end();
            CHECK.due("refused", base.bind(0, 0, number), 3);
            define(base, Words.PUSH, 1, Words.RETURN);
            CHECK.due("there", base.bind(0, 0, number), 0);
        }
        for (int bad : new int[] {MIN, -1, 12, 13, MAX}) {
            CHECK.due("procedure " + bad, base.bind(3, 2, bad), 3);
        }
    }

    private static void refusedBindChangesNothing() {
        CHECK.sentence("Promise 6", "1 no such table, 2 no such event, 3 no such procedure");
        TriggerBase base = withProcedures();
        base.bind(4, 0, 3);
        base.bind(-1, 3, 3);
        base.bind(0, 3, 3);
        base.bind(1, -1, 3);
        base.bind(0, 0, 5);
        base.bind(0, 0, -1);
        for (int table = 0; table < 4; table++) {
            for (int event = 0; event < 3; event++) {
                CHECK.due("none was set", base.unbind(table, event), false);
            }
        }
        base.bind(0, 0, 3);
        base.bind(0, 0, 5);
        base.bind(0, 0, -1);
        ask(base, 0, 7);
        CHECK.table("the one before stays", base, 1, new int[] {0, 0, 7});
    }

    private static void takesItAway() {
        CHECK.sentence("Promise 7", "Takes a trigger away: true");
        TriggerBase base = withProcedures();
        for (int event = 0; event < 3; event++) {
            base.bind(0, event, 3);
        }
        CHECK.due("unbind", base.unbind(0, 1), true);
        ask(base, 0, 7);
        CHECK.due("insert's stays", base.count(2), 1);
        ask(base, 2, 0);
        CHECK.due("update's stays", base.count(2), 1);
        ask(base, 1, 0);
        CHECK.due("delete's is gone", base.count(2), 0);
        CHECK.due("bind again", base.bind(0, 1, 3), 0);
        ask(base, 0, 7);
        ask(base, 1, 0);
        CHECK.due("delete's is there again", base.count(2), 1);
    }

    private static void thereIsNone() {
        CHECK.sentence("Promise 7", "false when there is none");
        TriggerBase base = withProcedures();
        CHECK.due("never set", base.unbind(1, 2), false);
        base.bind(1, 2, 0);
        for (int table : new int[] {MIN, -1, 4, MAX}) {
            CHECK.due("table " + table, base.unbind(table, 2), false);
        }
        for (int event : new int[] {MIN, -1, 3, MAX}) {
            CHECK.due("event " + event, base.unbind(1, event), false);
        }
        // Pairs that would be the same number if tables and events were counted in one row.
        CHECK.due("table 0, event 5", base.unbind(0, 5), false);
        CHECK.due("table 2, event -1", base.unbind(2, -1), false);
        CHECK.due("table 0, event 2", base.unbind(0, 2), false);
        CHECK.due("table 1, event 1", base.unbind(1, 1), false);
        CHECK.due("table 2, event 2", base.unbind(2, 2), false);
        CHECK.due("it is still there", base.unbind(1, 2), true);
        CHECK.due("taken away", base.unbind(1, 2), false);
        // A trigger with procedure 0 is one, too.
        base.bind(0, 0, 0);
        CHECK.due("procedure 0", base.unbind(0, 0), true);
    }

    private static void eventsApart() {
        CHECK.sentence("TRIGGERS", "for a table and an EVENT, 0 INSERT, 1 DELETE, 2 UPDATE, perhaps a procedure");
        for (int table = 0; table < 4; table++) {
            for (int event = 0; event < 3; event++) {
                TriggerBase base = withProcedures();
                define(base, Words.PUSH, 1, Words.RETURN);
                CHECK.due("bind", base.bind(table, event, 5), 0);
                ask(base, 0, 7);
                CHECK.due("insert", base.count(2), table == 0 && event == 0 ? 1 : 0);
                ask(base, 2, 0);
                CHECK.due("update", base.count(2), table == 0 && event == 2 ? 1 : 0);
                ask(base, 1, 0);
                CHECK.due("delete", base.count(2), table == 0 && event == 1 ? 1 : 0);
            }
        }
    }

    private static void firesAfterTheChange() {
        CHECK.sentence("TRIGGERS", "After a row was inserted, deleted, updated by an instruction");
        TriggerBase base = withProcedures();
        base.bind(0, 0, 4);
        base.bind(0, 1, 4);
        define(base, Words.LOAD, 0, Words.READ, 0, 0, Words.PUSH, 0, Words.PUSH, 0, Words.INSERT, 2, Words.RETURN);
        base.bind(0, 2, 5);
        ask(base, 0, 7);
        CHECK.due("the row is there", base.cell(1, 0, 0), 1);
        ask(base, 2, 0);
        CHECK.due("the cell is new", base.cell(2, 0, 0), 70);
        ask(base, 1, 0);
        CHECK.due("the row is gone", base.cell(1, 1, 0), 0);
    }

    private static void firesForARowOnly() {
        CHECK.sentence("TRIGGERS", "After a row was inserted, deleted, updated by an instruction");
        TriggerBase base = withProcedures();
        for (int event = 0; event < 3; event++) {
            base.bind(0, event, 3);
        }
        for (int none : new int[] {MIN, -1, 0, 1, 16, MAX}) {
            CHECK.due("delete of none", ask(base, 1, none), 0);
            CHECK.told("delete of none", base, 0, 3, 1, 0, 0);
            CHECK.due("update of none", ask(base, 2, none), 0);
            CHECK.told("update of none", base, 0, 4, 1, 0, 0);
        }
        base.unbind(0, 0);
        for (int i = 0; i < 16; i++) {
            ask(base, 0, i);
        }
        base.bind(0, 0, 3);
        CHECK.due("insert without room", base.call(0, 0, 100), 5);
        CHECK.told("insert without room", base, 0, 4, 1, 0, 0);
        // A cell that becomes what it was is updated all the same.
        ask(base, 2, 15);
        ask(base, 2, 15);
        CHECK.told("update to the same", base, 1, 4 + 5, 2, 1, 2);
    }

    private static void calledWithTheRowsNumber() {
        CHECK.sentence("TRIGGERS", "that procedure is called with the row's number");
        TriggerBase base = withProcedures();
        for (int i = 0; i < 15; i++) {
            ask(base, 0, i);
        }
        for (int event = 0; event < 3; event++) {
            base.bind(0, event, 3);
        }
        ask(base, 0, 60);
        ask(base, 2, 0);
        ask(base, 2, 15);
        ask(base, 1, 15);
        ask(base, 1, 0);
        ask(base, 1, 5);
        int[] numbers = {15, 0, 15, 15, 0, 5};
        for (int i = 0; i < numbers.length; i++) {
            CHECK.due("number " + i, base.cell(1, i, 0), numbers[i]);
        }
    }

    /** A trigger of table 0 that writes OLD into a row of table 2 and NEW into one of table 3. */
    private static TriggerBase withOldAndNew(int event) {
        TriggerBase base = withProcedures();
        define(base, Words.OLD, 0, Words.OLD, 1, Words.OLD, 2, Words.INSERT, 2, Words.DROP,
                Words.NEW, 0, Words.NEW, 1, Words.NEW, 2, Words.INSERT, 3, Words.RETURN);
        ask(base, 0, 5);
        ask(base, 0, 6);
        base.bind(0, event, 5);
        return base;
    }

    private static void oldAndNewOfInsert() {
        CHECK.sentence("TRIGGERS", "OLD is the row as it was (DELETE, UPDATE), NEW as it is (INSERT, UPDATE)");
        TriggerBase base = withOldAndNew(0);
        // A row that was changed before, without a trigger, is not OLD of what is inserted next.
        ask(base, 2, 0);
        ask(base, 1, 0);
        ask(base, 0, 7);
        CHECK.table("OLD of an insert", base, 2, new int[] {0, 0, 0});
        CHECK.table("NEW of an insert", base, 3, new int[] {7, 8, 9});
    }

    private static void oldAndNewOfDelete() {
        CHECK.sentence("TRIGGERS", "OLD is the row as it was (DELETE, UPDATE), NEW as it is (INSERT, UPDATE)");
        TriggerBase base = withOldAndNew(1);
        ask(base, 0, 7);
        ask(base, 1, 0);
        ask(base, 1, 0);
        CHECK.table("OLD of a delete", base, 2, new int[] {5, 8, 9}, new int[] {6, 8, 9});
        CHECK.table("NEW of a delete", base, 3, new int[] {0, 0, 0}, new int[] {0, 0, 0});
    }

    private static void oldAndNewOfUpdate() {
        CHECK.sentence("TRIGGERS", "OLD is the row as it was (DELETE, UPDATE), NEW as it is (INSERT, UPDATE)");
        TriggerBase base = withOldAndNew(2);
        ask(base, 2, 1);
        ask(base, 2, 1);
        CHECK.table("OLD of an update", base, 2, new int[] {6, 8, 9}, new int[] {70, 8, 9});
        CHECK.table("NEW of an update", base, 3, new int[] {70, 8, 9}, new int[] {70, 8, 9});
    }

    private static void allZeroButInATrigger() {
        CHECK.sentence("RUN", "OLD and NEW: all 0 but in a trigger");
        TriggerBase base = withOldAndNew(2);
        ask(base, 5, 0);
        CHECK.table("OLD of a call", base, 2, new int[] {0, 0, 0});
        CHECK.table("NEW of a call", base, 3, new int[] {0, 0, 0});
        // A trigger first, and then a run in the same depth that is none.
        define(base, Words.LOAD, 0, Words.PUSH, 4, Words.UPDATE, 0, 0, Words.CALL, 5, Words.RETURN);
        ask(base, 6, 0);
        CHECK.table("OLD", base, 2, new int[] {0, 0, 0}, new int[] {5, 8, 9}, new int[] {0, 0, 0});
        CHECK.table("NEW", base, 3, new int[] {0, 0, 0}, new int[] {4, 8, 9}, new int[] {0, 0, 0});
        ask(base, 5, 0);
        CHECK.due("OLD of the next call", base.cell(2, 3, 0), 0);
        CHECK.due("NEW of the next call", base.cell(3, 3, 0), 0);
    }

    private static void returnDoesNotCount() {
        CHECK.sentence("TRIGGERS", "what it returns does not count");
        TriggerBase base = withProcedures();
        define(base, Words.PUSH, 1, Words.PUSH, 2, Words.PUSH, MIN, Words.RETURN);
        for (int event = 0; event < 3; event++) {
            base.bind(0, event, 5);
        }
        CHECK.due("insert", ask(base, 0, 7), 0);
        CHECK.due("insert", ask(base, 0, 7), 1);
        CHECK.due("update", ask(base, 2, 1), 1);
        CHECK.due("delete", ask(base, 1, 1), 1);
        define(base, Words.LOAD, 0, Words.RETURN);
        define(base, Words.LOAD, 0, Words.COPY, Words.COPY, Words.INSERT, 0, Words.DROP,
                Words.PUSH, 33, Words.CALL, 6, Words.RETURN);
        CHECK.due("a call behind a trigger gives its value", ask(base, 7, 5), 33);
        // The instruction gives one number and no more: what lies below is still there.
        define(base, Words.PUSH, 100, Words.LOAD, 0, Words.CALL, 0, Words.ADD, Words.RETURN);
        CHECK.due("below it", ask(base, 8, 7), 102);
        define(base, Words.PUSH, 100, Words.LOAD, 0, Words.DELETE, 0, Words.SUBTRACT, Words.RETURN);
        CHECK.due("below it", ask(base, 9, 0), 99);
    }

    private static void onlyInstructionsFire() {
        CHECK.sentence("TRIGGERS", "After a row was inserted, deleted, updated by an instruction");
        TriggerBase base = withProcedures();
        define(base, Words.LOAD, 0, Words.CALL, 0, Words.RAISE);
        ask(base, 0, 7);
        base.bind(0, 1, 3);
        base.bind(0, 2, 3);
        CHECK.due("an insert that is taken back", base.call(5, 8, 100), 1);
        CHECK.told("it is no delete", base, 1, 8, 2, 0, 1);
        CHECK.table("no trigger wrote", base, 1);
        CHECK.table("the row before", base, 0, new int[] {7, 8, 9});
    }

    private static void firesItself() {
        CHECK.sentence("What it is", "changes of rows fire others");
        // Inserts into table 0 as long as it has fewer than 8 rows.
        TriggerBase base = new TriggerBase();
        define(base, Words.SIZE, 0, Words.PUSH, 8, Words.LESS, Words.JUMP_IF_ZERO, 14,
                Words.PUSH, 1, Words.COPY, Words.COPY, Words.INSERT, 0, Words.DROP, Words.PUSH, 5, Words.RETURN);
        CHECK.due("bind", base.bind(0, 0, 0), 0);
        CHECK.due("eight inserts need nine frames", base.call(0, 0, 2000), 4);
        CHECK.told("deep", base, 0, 64, 8, 7, 8);
        CHECK.table("taken back", base, 0);
        base.unbind(0, 0);
        ask(base, 0, 0);
        base.bind(0, 0, 0);
        CHECK.due("seven inserts need eight", base.call(0, 0, 2000), 0);
        CHECK.due("frames", base.count(1), 8);
        CHECK.due("triggers", base.count(2), 7);
        CHECK.due("rows", base.rows(0), 8);
    }
}
