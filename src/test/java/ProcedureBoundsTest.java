/** Promises 1 to 3 and 5: each sentence that names a boundary case, in the document's words. */
public final class ProcedureBoundsTest {
    private static final int MIN = Integer.MIN_VALUE;
    private static final int MAX = Integer.MAX_VALUE;
    private static final Check CHECK = new Check("ProcedureBoundsTest");

    public static void main(String[] args) {
        emptyTables();
        noProcedures();
        noTriggers();
        nextNumber();
        oneIsOpen();
        openOneStaysAsItIs();
        thereAreTwelve();
        twelfthRefused();
        wordsAreInts();
        noneIsOpen();
        itHasSixty();
        nextOneHasNone();
        twelfthHasSixty();
        howManyAreThere();
        CHECK.finish();
    }

    /** Defines a procedure that returns a number. */
    private static void defineReturn(TriggerBase base, int number) {
        CHECK.due("end", Check.define(base, Words.PUSH, number, Words.RETURN), 0);
    }

    private static void returns(TriggerBase base, int procedure, int want) {
        CHECK.due("call of " + procedure, base.call(procedure, 0, 2000), 0);
        CHECK.due("value of " + procedure, base.value(), want);
    }

    private static void emptyTables() {
        CHECK.sentence("Promise 1", "Empty tables");
        for (int table = 0; table < 4; table++) {
            TriggerBase base = new TriggerBase();
            CHECK.due("rows of " + table, base.rows(table), 0);
            for (int row = 0; row < 16; row++) {
                for (int column = 0; column < 3; column++) {
                    CHECK.due("cell", base.cell(table, row, column), 0);
                }
            }
            Check.define(base, Words.SIZE, table, Words.RETURN);
            Check.define(base, Words.PUSH, 0, Words.PUSH, 0, Words.FIND, table, 0, Words.RETURN);
            Check.define(base, Words.PUSH, 0, Words.DELETE, table, Words.RETURN);
            returns(base, 0, 0);
            returns(base, 1, -1);
            returns(base, 2, 0);
        }
    }

    private static void noProcedures() {
        CHECK.sentence("Promise 1", "no procedures");
        TriggerBase base = new TriggerBase();
        CHECK.due("procedures", base.procedures(), 0);
        CHECK.due("none is open", base.end(), -1);
        for (int procedure = 0; procedure < 12; procedure++) {
            CHECK.due("call", base.call(procedure, 0, 100), 6);
            CHECK.due("bind", base.bind(0, 0, procedure), 3);
            int[] words = {Words.PUSH, 1, Words.CALL, procedure, Words.RETURN};
            CHECK.due("a call of it", Check.define(base, words), 16 * 2 + 3);
        }
        CHECK.due("first number", base.begin(), 0);
    }

    private static void noTriggers() {
        CHECK.sentence("Promise 1", "no triggers");
        TriggerBase base = new TriggerBase();
        for (int table = 0; table < 4; table++) {
            Check.define(base, Words.PUSH, 1, Words.COPY, Words.COPY, Words.INSERT, table,
                    Words.DROP, Words.PUSH, 0, Words.PUSH, 2, Words.UPDATE, table, 0,
                    Words.DROP, Words.PUSH, 0, Words.DELETE, table, Words.RETURN);
            returns(base, table, 1);
            CHECK.told("insert, update, delete", base, 1, 12, 1, 0, 3);
            for (int event = 0; event < 3; event++) {
                CHECK.due("unbind", base.unbind(table, event), false);
            }
        }
    }

    private static void nextNumber() {
        CHECK.sentence("Promise 2", "Opens the next procedure: its number");
        TriggerBase base = new TriggerBase();
        for (int number = 0; number < 12; number++) {
            CHECK.due("begin", base.begin(), number);
            base.emit(Words.PUSH);
            base.emit(number);
            base.emit(Words.RETURN);
            base.end();
        }
        for (int number = 0; number < 12; number++) {
            returns(base, number, number);
        }
    }

    private static void oneIsOpen() {
        CHECK.sentence("Promise 2", "-1 when one is open");
        TriggerBase base = new TriggerBase();
        for (int number = 0; number < 12; number++) {
            base.begin();
            CHECK.due("begin with no word", base.begin(), -1);
            base.emit(Words.PUSH);
            CHECK.due("begin with a word", base.begin(), -1);
            base.emit(1);
            base.emit(Words.RETURN);
            CHECK.due("begin with a whole one", base.begin(), -1);
            base.end();
        }
        TriggerBase full = new TriggerBase();
        full.begin();
        Check.fillUp(full, 0, 60);
        CHECK.due("begin with sixty words", full.begin(), -1);
    }

    private static void openOneStaysAsItIs() {
        CHECK.sentence("Promise 2", "-1 when one is open");
        TriggerBase base = new TriggerBase();
        base.begin();
        base.emit(Words.PUSH);
        base.begin();
        CHECK.due("procedures", base.procedures(), 0);
        CHECK.due("emit behind the others", base.emit(8), true);
        base.begin();
        base.emit(Words.RETURN);
        CHECK.due("end", base.end(), 0);
        returns(base, 0, 8);
        CHECK.due("none is open then", base.begin(), 1);
    }

    private static void thereAreTwelve() {
        CHECK.sentence("Promise 2", "-2 when there are 12");
        TriggerBase base = new TriggerBase();
        for (int number = 0; number < 12; number++) {
            CHECK.due("begin", base.begin() >= 0, true);
            base.emit(Words.PUSH);
            base.emit(50 + number);
            base.emit(Words.RETURN);
            base.end();
        }
        for (int i = 0; i < 2; i++) {
            CHECK.due("begin", base.begin(), -2);
            CHECK.due("none is open", base.emit(Words.PUSH), false);
            CHECK.due("none is open", base.end(), -1);
            CHECK.due("procedures", base.procedures(), 12);
        }
        returns(base, 0, 50);
        returns(base, 11, 61);
        CHECK.due("a thirteenth", base.call(12, 0, 100), 6);
    }

    private static void twelfthRefused() {
        CHECK.sentence("Promise 2", "-2 when there are 12");
        TriggerBase base = new TriggerBase();
        for (int number = 0; number < 11; number++) {
            defineReturn(base, number);
        }
        CHECK.due("eleven and an open one", base.begin(), 11);
        CHECK.due("one is open", base.begin(), -1);
        CHECK.due("it is refused", base.end(), 8);
        CHECK.due("eleven", base.begin(), 11);
        base.end();
        defineReturn(base, 11);
        CHECK.due("twelve", base.begin(), -2);
    }

    private static void wordsAreInts() {
        CHECK.sentence("Promise 3", "Puts a word behind the open procedure's: true");
        TriggerBase base = new TriggerBase();
        int[] numbers = {MIN, -1, 0, 27, 60, MAX};
        for (int i = 0; i < numbers.length; i++) {
            base.begin();
            CHECK.due("emit", base.emit(Words.PUSH), true);
            CHECK.due("emit of " + numbers[i], base.emit(numbers[i]), true);
            CHECK.due("emit", base.emit(Words.RETURN), true);
            base.end();
            returns(base, i, numbers[i]);
        }
    }

    private static void noneIsOpen() {
        CHECK.sentence("Promise 3", "false when none is open");
        TriggerBase base = new TriggerBase();
        CHECK.due("new", base.emit(Words.PUSH), false);
        base.begin();
        base.end();
        CHECK.due("a refused one", base.emit(Words.PUSH), false);
        defineReturn(base, 3);
        CHECK.due("a verified one", base.emit(Words.PUSH), false);
        base.call(0, 0, 100);
        CHECK.due("a called one", base.emit(Words.RETURN), false);
        returns(base, 0, 3);
        CHECK.due("next", base.begin(), 1);
        CHECK.due("nothing is in it", base.end(), 8);
    }

    private static void itHasSixty() {
        CHECK.sentence("Promise 3", "or it has 60");
        TriggerBase base = new TriggerBase();
        base.begin();
        Check.fillUp(base, 0, 57);
        CHECK.due("58th", base.emit(Words.PUSH), true);
        CHECK.due("59th", base.emit(4), true);
        CHECK.due("60th", base.emit(Words.RETURN), true);
        CHECK.due("61st", base.emit(Words.RETURN), false);
        CHECK.due("62nd", base.emit(27), false);
        CHECK.due("end", base.end(), 0);
        returns(base, 0, 4);
        CHECK.due("all were done", base.count(0), 40);
    }

    private static void nextOneHasNone() {
        CHECK.sentence("Promise 3", "or it has 60");
        TriggerBase base = new TriggerBase();
        defineReturn(base, 5);
        base.begin();
        Check.fillUp(base, 0, 60);
        CHECK.due("61st", base.emit(27), false);
        CHECK.due("sixty words without a return", base.end(), 16 * 59 + 8);
        base.begin();
        CHECK.due("first of the next", base.emit(Words.PUSH), true);
        base.emit(6);
        base.emit(Words.RETURN);
        CHECK.due("end of the next", base.end(), 0);
        returns(base, 0, 5);
        returns(base, 1, 6);
    }

    private static void twelfthHasSixty() {
        CHECK.sentence("Terms", "at most 12, are rows of WORDS (ints), at most 60 each");
        TriggerBase base = new TriggerBase();
        for (int number = 0; number < 11; number++) {
            defineReturn(base, number);
        }
        CHECK.due("the twelfth", base.begin(), 11);
        Check.fillUp(base, 0, 57);
        base.emit(Words.PUSH);
        base.emit(MIN);
        CHECK.due("its sixtieth word", base.emit(Words.RETURN), true);
        CHECK.due("a word more", base.emit(Words.RETURN), false);
        CHECK.due("end", base.end(), 0);
        returns(base, 11, MIN);
        CHECK.due("all were done", base.count(0), 40);
        for (int number = 0; number < 11; number++) {
            returns(base, number, number);
        }
    }

    private static void howManyAreThere() {
        CHECK.sentence("Promise 5", "How many procedures are there");
        TriggerBase base = new TriggerBase();
        for (int number = 0; number < 12; number++) {
            CHECK.due("before", base.procedures(), number);
            base.begin();
            CHECK.due("an open one is not there", base.procedures(), number);
            base.end();
            CHECK.due("a refused one is not there", base.procedures(), number);
            defineReturn(base, number);
            CHECK.due("a verified one is", base.procedures(), number + 1);
        }
        base.begin();
        base.end();
        base.call(12, 0, 100);
        CHECK.due("at most", base.procedures(), 12);
    }
}
