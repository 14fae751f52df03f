/** Promises 1 to 5: a new object; opening, filling and closing procedures; how many are there. */
public final class LibraryTest {
    private static final Check CHECK = new Check("LibraryTest");

    public static void main(String[] args) {
        newObject();
        objectsApart();
        beginEmitEnd();
        sixtyWords();
        twelveProcedures();
        numberComesAgain();
        openProcedureIsNotThere();
        CHECK.finish();
    }

    private static void newObject() {
        TriggerBase base = new TriggerBase();
        CHECK.due("procedures of a new object", base.procedures(), 0);
        for (int table = 0; table < 4; table++) {
            CHECK.due("rows of a new object", base.rows(table), 0);
            CHECK.due("cell of a new object", base.cell(table, 0, 0), 0);
            for (int event = 0; event < 3; event++) {
                CHECK.due("trigger of a new object", base.unbind(table, event), false);
            }
        }
        CHECK.told("before any call", base, 0, 0, 0, 0, 0);
        CHECK.due("no procedure is open", base.end(), -1);
        CHECK.due("no procedure to call", base.call(0, 0, 10), 6);
    }

    private static void objectsApart() {
        TriggerBase one = new TriggerBase();
        TriggerBase other = new TriggerBase();
        Check.define(one, 0, 1, 0, 2, 0, 3, 18, 0, 26);
        one.call(0, 0, 100);
        one.bind(0, 0, 0);
        CHECK.due("procedures of the other", other.procedures(), 0);
        CHECK.due("rows of the other", other.rows(0), 0);
        CHECK.due("triggers of the other", other.unbind(0, 0), false);
        CHECK.told("calls of the other", other, 0, 0, 0, 0, 0);
    }

    private static void beginEmitEnd() {
        TriggerBase base = new TriggerBase();
        CHECK.due("emit with none open", base.emit(0), false);
        CHECK.due("end with none open", base.end(), -1);
        CHECK.due("begin", base.begin(), 0);
        CHECK.due("begin with one open", base.begin(), -1);
        CHECK.due("emit", base.emit(0), true);
        CHECK.due("emit of any int", base.emit(Integer.MIN_VALUE), true);
        CHECK.due("begin keeps the words", base.begin(), -1);
        CHECK.due("emit", base.emit(26), true);
        CHECK.due("end", base.end(), 0);
        CHECK.due("end again", base.end(), -1);
        CHECK.due("emit after end", base.emit(26), false);
        CHECK.due("call", base.call(0, 0, 2), 0);
        CHECK.due("value", base.value(), Integer.MIN_VALUE);
        CHECK.due("begin the next", base.begin(), 1);
    }

    private static void sixtyWords() {
        TriggerBase base = new TriggerBase();
        base.begin();
        for (int i = 0; i < 57; i++) {
            CHECK.due("emit " + i, base.emit(i % 3 == 2 ? 1 : 0), true);
        }
        CHECK.due("emit 57", base.emit(0), true);
        CHECK.due("emit 58", base.emit(5), true);
        CHECK.due("emit 59", base.emit(26), true);
        CHECK.due("emit 60", base.emit(99), false);
        CHECK.due("emit 61", base.emit(0), false);
        CHECK.due("end of sixty words", base.end(), 0);
        CHECK.due("call of sixty words", base.call(0, 0, 40), 0);
        CHECK.told("sixty words", base, 5, 40, 1, 0, 0);
        CHECK.due("a new one is empty", base.begin(), 1);
        CHECK.due("emit into a new one", base.emit(27), true);
        CHECK.due("end of a new one", base.end(), 1);
    }

    private static void twelveProcedures() {
        TriggerBase base = new TriggerBase();
        for (int i = 0; i < 12; i++) {
            CHECK.due("procedures", base.procedures(), i);
            CHECK.due("begin", base.begin(), i);
            CHECK.due("begin with one open", base.begin(), -1);
            base.emit(0);
            base.emit(100 + i);
            base.emit(26);
            CHECK.due("end", base.end(), 0);
        }
        CHECK.due("begin of a thirteenth", base.begin(), -2);
        CHECK.due("emit into a thirteenth", base.emit(0), false);
        CHECK.due("end of a thirteenth", base.end(), -1);
        CHECK.due("procedures at most", base.procedures(), 12);
        for (int i = 0; i < 12; i++) {
            CHECK.due("call of " + i, base.call(i, 0, 2), 0);
            CHECK.due("value of " + i, base.value(), 100 + i);
        }
        CHECK.due("call of a thirteenth", base.call(12, 0, 2), 6);
    }

    private static void numberComesAgain() {
        TriggerBase base = new TriggerBase();
        Check.define(base, 0, 7, 26);
        CHECK.due("a refused one", Check.define(base, 0, 1, 0, 2, 0), 16 * 4 + 2);
        CHECK.due("procedures without it", base.procedures(), 1);
        CHECK.due("a refused one can't be called", base.call(1, 0, 9), 6);
        CHECK.due("its number comes again", base.begin(), 1);
        base.emit(0);
        base.emit(8);
        base.emit(26);
        CHECK.due("nothing of it stays", base.end(), 0);
        CHECK.due("procedures", base.procedures(), 2);
        CHECK.due("call", base.call(1, 0, 9), 0);
        CHECK.due("value", base.value(), 8);
    }

    private static void openProcedureIsNotThere() {
        TriggerBase base = new TriggerBase();
        Check.define(base, 0, 7, 26);
        base.begin();
        base.emit(0);
        base.emit(9);
        CHECK.due("procedures with one open", base.procedures(), 1);
        CHECK.due("call of the open one", base.call(1, 0, 9), 6);
        CHECK.due("bind of the open one", base.bind(0, 0, 1), 3);
        CHECK.due("call of another", base.call(0, 0, 9), 0);
        CHECK.due("value of another", base.value(), 7);
        base.emit(26);
        CHECK.due("end", base.end(), 0);
        CHECK.due("call after end", base.call(1, 0, 9), 0);
        CHECK.due("value after end", base.value(), 9);
    }
}
