/** "RUN", "CALL" and promise 8: each sentence that names a boundary case, in the document's words. */
public final class CallBoundsTest {
    private static final int MIN = Integer.MIN_VALUE;
    private static final int MAX = Integer.MAX_VALUE;
    private static final Check CHECK = new Check("CallBoundsTest");

    public static void main(String[] args) {
        fuelBelowZero();
        fuelAbove();
        costsOne();
        withoutFuelNotDone();
        fuelBeforeOtherEndings();
        localsOfARun();
        localsOfFrames();
        eightFramesByCalls();
        eightFramesByTriggers();
        eightFramesByBoth();
        framesOneBehindAnother();
        done();
        raised();
        zero();
        outOfFuel();
        deep();
        room();
        roomAgain();
        none();
        takenBack();
        doneStays();
        takenBackToTheLatestCall();
        CHECK.finish();
    }

    private static void define(TriggerBase base, int... words) {
        CHECK.due("end", Check.define(base, words), 0);
    }

    /** Counts its argument n down to 0 and has some instructions more: it does 7 * n + 4 + more in all. */
    private static TriggerBase countingDown(int more) {
        TriggerBase base = new TriggerBase();
        int[] words = new int[17 + more];
        int[] loop = {Words.LOAD, 0, Words.JUMP_IF_ZERO, 14, Words.LOAD, 0, Words.PUSH, 1, Words.SUBTRACT,
            Words.STORE, 0, Words.JUMP, 0, Words.RETURN, Words.PUSH, 3};
        System.arraycopy(loop, 0, words, 0, loop.length);
        for (int place = loop.length; place < words.length - 1; place++) {
            words[place] = Words.NOT;
        }
        words[words.length - 1] = Words.RETURN;
        CHECK.due("end", Check.define(base, words), 0);
        return base;
    }

    private static void fuelBelowZero() {
        CHECK.sentence("Promise 8", "fuel (below 0 as 0");
        TriggerBase base = new TriggerBase();
        define(base, Words.PUSH, 5, Words.RETURN);
        for (int fuel : new int[] {MIN, -2000, -1, 0}) {
            CHECK.due("fuel " + fuel, base.call(0, 0, fuel), 3);
            CHECK.told("fuel " + fuel, base, 0, 0, 1, 0, 0);
        }
        CHECK.due("fuel 1", base.call(0, 0, 1), 3);
        CHECK.told("fuel 1", base, 0, 1, 1, 0, 0);
        CHECK.due("fuel 2", base.call(0, 0, 2), 0);
        CHECK.told("fuel 2", base, 5, 2, 1, 0, 0);
    }

    private static void fuelAbove() {
        CHECK.sentence("Promise 8", "above 2000 as 2000)");
        TriggerBase just = countingDown(1);
        CHECK.due("1999 of 2000", just.call(0, 285, 1999), 3);
        CHECK.due("fuel", just.count(0), 1999);
        for (int fuel : new int[] {2000, 2001, MAX}) {
            CHECK.due("2000 with " + fuel, just.call(0, 285, fuel), 0);
            CHECK.due("fuel", just.count(0), 2000);
        }
        TriggerBase more = countingDown(2);
        for (int fuel : new int[] {2000, 2001, 2002, MAX}) {
            CHECK.due("2001 with " + fuel, more.call(0, 285, fuel), 3);
            CHECK.told("2001 with " + fuel, more, 0, 2000, 1, 0, 0);
        }
    }

    /** The words stand behind three pushes of 1 and are followed by a return. */
    private static void costs(int want, int... words) {
        TriggerBase base = new TriggerBase();
        define(base, Words.LOAD, 0, Words.RETURN);
        int[] all = new int[6 + words.length + 1];
        for (int i = 0; i < 6; i += 2) {
            all[i + 1] = 1;
        }
        System.arraycopy(words, 0, all, 6, words.length);
        all[all.length - 1] = Words.RETURN;
        define(base, all);
        base.bind(0, 1, 0);
        CHECK.due("call of " + words[0], base.call(1, 0, 2000), 0);
        CHECK.due("cost of " + words[0], base.count(0), 3 + want + 1);
    }

    private static void costsOne() {
        CHECK.sentence("RUN", "Each instruction costs 1 of the FUEL");
        for (int word = Words.DROP; word <= Words.NOT; word++) {
            costs(1, word);
        }
        costs(1, Words.PUSH, 1);
        costs(1, Words.LOAD, 0);
        costs(1, Words.STORE, 0);
        costs(1, Words.JUMP, 8);
        costs(1, Words.JUMP_IF_ZERO, 8);
        costs(1, Words.SIZE, 0);
        costs(1, Words.READ, 0, 0);
        costs(1, Words.INSERT, 0);
        costs(1, Words.DELETE, 0);
        costs(1, Words.UPDATE, 0, 0);
        costs(1, Words.FIND, 0, 0);
        costs(1, Words.OLD, 0);
        costs(1, Words.NEW, 0);
        // A call and a trigger cost their own 1 and the 2 of the procedure.
        costs(3, Words.CALL, 0);
        costs(1 + 1 + 3, Words.INSERT, 0, Words.PUSH, 0, Words.DELETE, 0);
    }

    private static void withoutFuelNotDone() {
        CHECK.sentence("RUN", "without any it is not done");
        TriggerBase base = new TriggerBase();
        define(base, Words.LOAD, 0, Words.RETURN);
        define(base, Words.PUSH, 1, Words.COPY, Words.COPY, Words.INSERT, 0, Words.CALL, 0, Words.RETURN);
        base.bind(0, 0, 0);
        // By the fuel: frames, triggers, changes. The trigger's own two instructions are the fifth and sixth.
        int[] frames = {1, 1, 1, 1, 2, 2, 2, 2, 2, 2};
        for (int fuel = 0; fuel < 10; fuel++) {
            CHECK.due("fuel " + fuel, base.call(1, 0, fuel), 3);
            CHECK.told("fuel " + fuel, base, 0, fuel, frames[fuel], fuel < 4 ? 0 : 1, fuel < 4 ? 0 : 1);
            CHECK.due("rows", base.rows(0), 0);
        }
        CHECK.due("fuel 10", base.call(1, 0, 10), 0);
        CHECK.told("fuel 10", base, 0, 10, 2, 1, 1);
        CHECK.due("rows", base.rows(0), 1);
    }

    private static void fuelBeforeOtherEndings() {
        CHECK.sentence("RUN", "without any it is not done");
        TriggerBase base = new TriggerBase();
        define(base, Words.PUSH, 1, Words.RAISE);
        define(base, Words.PUSH, 1, Words.PUSH, 0, Words.DIVIDE, Words.RETURN);
        define(base, Words.PUSH, 1, Words.PUSH, 0, Words.REMAINDER, Words.RETURN);
        define(base, Words.PUSH, 1, Words.COPY, Words.COPY, Words.INSERT, 3, Words.RETURN);
        for (int i = 0; i < 16; i++) {
            base.call(3, 0, 100);
        }
        int[] before = {1, 2, 2, 3};
        int[] endings = {1, 2, 2, 5};
        for (int procedure = 0; procedure < 4; procedure++) {
            CHECK.due("one too little", base.call(procedure, 0, before[procedure]), 3);
            CHECK.due("fuel", base.count(0), before[procedure]);
            CHECK.due("just enough", base.call(procedure, 0, before[procedure] + 1), endings[procedure]);
            CHECK.due("fuel", base.count(0), before[procedure] + 1);
        }
        CHECK.due("no procedure, no fuel", base.call(4, 0, 0), 6);
    }

    private static void localsOfARun() {
        CHECK.sentence("RUN", "locals (local 0 what it was called with, others 0)");
        TriggerBase base = new TriggerBase();
        for (int local = 0; local < 8; local++) {
            define(base, Words.LOAD, local, Words.PUSH, 9, Words.STORE, local, Words.RETURN);
        }
        for (int argument : new int[] {MIN, -1, 0, 1, MAX}) {
            for (int local = 0; local < 8; local++) {
                CHECK.due("call", base.call(local, argument, 100), 0);
                CHECK.due("local " + local, base.value(), local == 0 ? argument : 0);
            }
        }
    }

    private static void localsOfFrames() {
        CHECK.sentence("RUN", "A RUN of a procedure is a FRAME: stack, locals");
        TriggerBase base = new TriggerBase();
        // Fills its stack and its locals, and returns its argument times 2.
        define(base, Words.LOAD, 0, Words.PUSH, 8, Words.COPY, Words.STORE, 1, Words.COPY, Words.STORE, 7,
                Words.COPY, Words.COPY, Words.COPY, Words.COPY, Words.COPY, Words.COPY, Words.COPY, Words.COPY,
                Words.LOAD, 0, Words.PUSH, 2, Words.MULTIPLY, Words.RETURN);
        define(base, Words.PUSH, 40, Words.PUSH, 3, Words.STORE, 7, Words.LOAD, 0, Words.CALL, 0,
                Words.LOAD, 7, Words.MULTIPLY, Words.LOAD, 1, Words.ADD, Words.LOAD, 0, Words.ADD, Words.ADD,
                Words.RETURN);
        for (int i = 0; i < 2; i++) {
            CHECK.due("call", base.call(1, 5, 100), 0);
            CHECK.due("value", base.value(), 40 + 10 * 3 + 0 + 5);
        }
    }

    /** Procedure 0 returns its argument; each one behind it calls the one before it. */
    private static TriggerBase chain(int procedures) {
        TriggerBase base = new TriggerBase();
        define(base, Words.LOAD, 0, Words.RETURN);
        for (int i = 1; i < procedures; i++) {
            define(base, Words.LOAD, 0, Words.CALL, i - 1, Words.RETURN);
        }
        return base;
    }

    private static void eightFramesByCalls() {
        CHECK.sentence("RUN", "At most 8 frames in one another");
        TriggerBase base = chain(12);
        for (int procedure = 0; procedure < 8; procedure++) {
            CHECK.due("frames " + (procedure + 1), base.call(procedure, 6, 100), 0);
            CHECK.told("frames", base, 6, 3 * procedure + 2, procedure + 1, 0, 0);
        }
        for (int procedure = 8; procedure < 12; procedure++) {
            CHECK.due("frames " + (procedure + 1), base.call(procedure, 6, 100), 4);
            CHECK.told("frames", base, 0, 16, 8, 0, 0);
        }
        CHECK.due("eight again", base.call(7, 6, 100), 0);
    }

    /** Inserts into one table after another, each by the trigger of the one before: 4 tables, 3 events. */
    private static void eightFramesByTriggers() {
        CHECK.sentence("RUN", "At most 8 frames in one another");
        for (int missing = 0; missing < 2; missing++) {
            TriggerBase base = new TriggerBase();
            define(base, Words.PUSH, 1, Words.RETURN);
            for (int table = 0; table < 4; table++) {
                define(base, Words.PUSH, 1, Words.COPY, Words.COPY, Words.INSERT, table, Words.RETURN);
            }
            for (int table = 0; table < 4; table++) {
                define(base, Words.PUSH, 0, Words.PUSH, 1, Words.UPDATE, table, 0, Words.RETURN);
            }
            // Insert 0 fires insert 1, 2, 3, this update 0, 1, 2, 3: eight changes, of which the last fires one more.
            for (int table = 0; table < 3; table++) {
                base.bind(table, 0, table + 2);
                base.bind(table, 2, table + 6);
            }
            base.bind(3, 0, 5);
            if (missing == 0) {
                base.bind(3, 2, 0);
            }
            CHECK.due("call", base.call(1, 0, 200), missing == 0 ? 4 : 0);
            CHECK.due("frames", base.count(1), 8);
            CHECK.due("triggers", base.count(2), 7);
            CHECK.due("changes", base.count(3), 8);
            CHECK.due("rows", base.rows(3), missing);
        }
    }

    private static void eightFramesByBoth() {
        CHECK.sentence("RUN", "At most 8 frames in one another");
        for (int frames = 7; frames < 10; frames++) {
            TriggerBase base = chain(8);
            define(base, Words.PUSH, 1, Words.COPY, Words.COPY, Words.INSERT, 0, Words.RETURN);
            define(base, Words.PUSH, 1, Words.CALL, 8, Words.RETURN);
            // The ninth procedure calls the eighth, this inserts, and the trigger needs frames - 2 of its own.
            base.bind(0, 0, frames - 3);
            CHECK.due("frames " + frames, base.call(9, 0, 200), frames > 8 ? 4 : 0);
            CHECK.due("frames", base.count(1), Math.min(frames, 8));
            CHECK.due("triggers", base.count(2), 1);
            CHECK.due("rows", base.rows(0), frames > 8 ? 0 : 1);
        }
    }

    private static void framesOneBehindAnother() {
        CHECK.sentence("RUN", "At most 8 frames in one another");
        TriggerBase base = chain(2);
        define(base, Words.LOAD, 0, Words.CALL, 1, Words.CALL, 1, Words.CALL, 1, Words.CALL, 1, Words.CALL, 1,
                Words.CALL, 1, Words.CALL, 1, Words.CALL, 1, Words.CALL, 1, Words.CALL, 1, Words.RETURN);
        CHECK.due("twenty frames", base.call(2, 4, 200), 0);
        CHECK.told("three in one another", base, 4, 2 + 10 * 6, 3, 0, 0);
    }

    private static void done() {
        CHECK.sentence("CALL", "0 DONE");
        TriggerBase base = chain(1);
        for (int argument : new int[] {MIN, -1, 0, 1, MAX}) {
            CHECK.due("done", base.call(0, argument, 2), 0);
            CHECK.due("value", base.value(), argument);
        }
    }

    private static void raised() {
        CHECK.sentence("CALL", "1 RAISED");
        TriggerBase base = new TriggerBase();
        define(base, Words.LOAD, 0, Words.RAISE);
        define(base, Words.LOAD, 0, Words.CALL, 0, Words.RETURN);
        define(base, Words.PUSH, 1, Words.COPY, Words.COPY, Words.INSERT, 0, Words.RETURN);
        base.bind(0, 0, 0);
        CHECK.due("at once", base.call(0, 7, 100), 1);
        CHECK.told("at once", base, 7, 2, 1, 0, 0);
        CHECK.due("in a frame", base.call(1, 8, 100), 1);
        CHECK.told("in a frame", base, 8, 4, 2, 0, 0);
        CHECK.due("in a trigger", base.call(2, 9, 100), 1);
        CHECK.told("in a trigger", base, 0, 6, 2, 1, 1);
    }

    private static void zero() {
        CHECK.sentence("CALL", "2 ZERO (/ or % by 0)");
        for (int word : new int[] {Words.DIVIDE, Words.REMAINDER}) {
            for (int a : new int[] {MIN, -1, 0, 1, MAX}) {
                TriggerBase base = new TriggerBase();
                define(base, Words.PUSH, a, Words.LOAD, 0, word, Words.RETURN);
                CHECK.due(a + " by 0", base.call(0, 0, 100), 2);
                CHECK.told(a + " by 0", base, 0, 3, 1, 0, 0);
                CHECK.due(a + " by 1", base.call(0, 1, 100), 0);
                CHECK.due(a + " by -1", base.call(0, -1, 100), 0);
            }
        }
    }

    private static void outOfFuel() {
        CHECK.sentence("CALL", "3 FUEL");
        TriggerBase base = new TriggerBase();
        define(base, Words.JUMP, 0);
        define(base, Words.LOAD, 0, Words.CALL, 0, Words.RETURN);
        for (int fuel = 0; fuel < 4; fuel++) {
            CHECK.due("fuel " + fuel, base.call(1, 0, fuel), 3);
            CHECK.told("fuel " + fuel, base, 0, fuel, fuel < 2 ? 1 : 2, 0, 0);
        }
    }

    private static void deep() {
        CHECK.sentence("CALL", "4 DEEP (a frame more than 8)");
        TriggerBase base = chain(9);
        CHECK.due("eight", base.call(7, 0, 2000), 0);
        CHECK.due("nine", base.call(8, 0, 2000), 4);
        CHECK.due("fuel for the eighth call", base.call(8, 0, 16), 4);
        CHECK.due("no fuel for the eighth call", base.call(8, 0, 15), 3);
        CHECK.due("frames", base.count(1), 8);
    }

    private static void room() {
        CHECK.sentence("CALL", "5 ROOM (an INSERT into 16 rows)");
        for (int table = 0; table < 4; table++) {
            TriggerBase base = new TriggerBase();
            define(base, Words.LOAD, 0, Words.COPY, Words.COPY, Words.INSERT, table, Words.RETURN);
            define(base, Words.LOAD, 0, Words.COPY, Words.COPY, Words.INSERT, 3 - table, Words.RETURN);
            for (int row = 0; row < 16; row++) {
                CHECK.due("insert " + row, base.call(0, row, 100), 0);
            }
            CHECK.due("insert 16", base.call(0, 16, 100), 5);
            CHECK.told("insert 16", base, 0, 4, 1, 0, 0);
            CHECK.due("rows", base.rows(table), 16);
            CHECK.due("another table has room", base.call(1, 0, 100), 0);
        }
    }

    private static void roomAgain() {
        CHECK.sentence("CALL", "5 ROOM (an INSERT into 16 rows)");
        TriggerBase base = new TriggerBase();
        define(base, Words.LOAD, 0, Words.COPY, Words.COPY, Words.INSERT, 1, Words.RETURN);
        // Deletes a row, if there is one, and inserts two.
        define(base, Words.LOAD, 0, Words.DELETE, 1, Words.CALL, 0, Words.CALL, 0, Words.RETURN);
        for (int row = 0; row < 15; row++) {
            base.call(0, row, 100);
        }
        CHECK.due("one less, two more", base.call(1, 3, 100), 0);
        CHECK.due("rows", base.rows(1), 16);
        CHECK.due("one less, two more", base.call(1, 3, 100), 5);
        CHECK.told("the delete and the first insert count", base, 0, 13, 2, 0, 2);
        CHECK.due("rows", base.rows(1), 16);
        CHECK.due("the row is there again", base.cell(1, 3, 0), 4);
    }

    private static void none() {
        CHECK.sentence("CALL", "6 NONE (no verified procedure of that number)");
        TriggerBase base = new TriggerBase();
        CHECK.due("no procedure at all", base.call(0, 0, 100), 6);
        define(base, Words.PUSH, 1, Words.RETURN);
        for (int number : new int[] {MIN, -1, 1, 11, 12, MAX}) {
            CHECK.due("number " + number, base.call(number, 0, 100), 6);
            CHECK.told("number " + number, base, 0, 0, 0, 0, 0);
        }
        base.begin();
        base.emit(Words.PUSH);
        base.emit(2);
        base.emit(Words.RETURN);
        CHECK.due("the open one", base.call(1, 0, 100), 6);
        base.emit(27);
        base.end();
        CHECK.due("the refused one", base.call(1, 0, 100), 6);
        for (int number = 1; number < 12; number++) {
            define(base, Words.PUSH, 1, Words.RETURN);
            CHECK.due("there", base.call(number, 0, 100), 0);
        }
        CHECK.due("behind twelve", base.call(12, 0, 100), 6);
    }

    /**
     * Procedure 0 inserts its argument into all tables, and it has been called with 4 and 5; procedure 1 deletes row
     * 0 of each table, makes column 1 of the new row 0 become 77, and calls procedure 0 with 9.
     */
    private static TriggerBase withChanges() {
        TriggerBase base = new TriggerBase();
        int[] inserts = new int[4 * 7 + 3];
        int[] changes = new int[4 * 13 + 5];
        for (int table = 0; table < 4; table++) {
            int[] insert = {Words.LOAD, 0, Words.COPY, Words.COPY, Words.INSERT, table, Words.DROP};
            System.arraycopy(insert, 0, inserts, 7 * table, 7);
            int[] change = {Words.PUSH, 0, Words.DELETE, table, Words.DROP,
                Words.PUSH, 0, Words.PUSH, 77, Words.UPDATE, table, 1, Words.DROP};
            System.arraycopy(change, 0, changes, 13 * table, 13);
        }
        System.arraycopy(new int[] {Words.PUSH, 1, Words.RETURN}, 0, inserts, 28, 3);
        System.arraycopy(new int[] {Words.PUSH, 9, Words.CALL, 0, Words.RETURN}, 0, changes, 52, 5);
        define(base, inserts);
        define(base, changes);
        base.call(0, 4, 100);
        base.call(0, 5, 100);
        return base;
    }

    private static void rowsBefore(TriggerBase base) {
        for (int table = 0; table < 4; table++) {
            CHECK.table("as before", base, table, new int[] {4, 4, 4}, new int[] {5, 5, 5});
            CHECK.due("nothing behind", base.cell(table, 2, 0), 0);
        }
    }

    private static void takenBack() {
        CHECK.sentence("CALL", "Unless it is 0, all tables are as they were before");
        takenBackBy(1, Words.LOAD, 0, Words.CALL, 1, Words.RAISE);
        takenBackBy(2, Words.LOAD, 0, Words.CALL, 1, Words.PUSH, 0, Words.DIVIDE, Words.RETURN);
        takenBackBy(2, Words.LOAD, 0, Words.CALL, 1, Words.PUSH, 0, Words.REMAINDER, Words.RETURN);
        takenBackBy(3, Words.LOAD, 0, Words.CALL, 1, Words.JUMP, 4);
        takenBackBy(5, Words.LOAD, 0, Words.CALL, 1, Words.DROP,
                Words.LOAD, 0, Words.CALL, 0, Words.DROP, Words.JUMP, 5);
        TriggerBase base = withChanges();
        for (int frame = 2; frame < 10; frame++) {
            define(base, Words.LOAD, 0, Words.CALL, frame - 1, Words.RETURN);
        }
        define(base, Words.LOAD, 0, Words.CALL, 1, Words.CALL, 9, Words.RETURN);
        CHECK.due("ending", base.call(10, 0, 2000), 4);
        CHECK.due("changes", base.count(3), 12);
        rowsBefore(base);
        CHECK.due("ending", base.call(11, 0, 2000), 6);
        rowsBefore(base);
    }

    private static void takenBackBy(int ending, int... words) {
        TriggerBase base = withChanges();
        define(base, words);
        CHECK.due("ending", base.call(2, 0, 2000), ending);
        CHECK.due("there were changes", base.count(3) >= 12, true);
        rowsBefore(base);
    }

    private static void doneStays() {
        CHECK.sentence("CALL", "Unless it is 0, all tables are as they were before");
        TriggerBase base = withChanges();
        CHECK.due("ending", base.call(1, 0, 2000), 0);
        for (int table = 0; table < 4; table++) {
            CHECK.table("changed", base, table, new int[] {5, 77, 5}, new int[] {9, 9, 9});
        }
        CHECK.due("changes", base.count(3), 12);
    }

    private static void takenBackToTheLatestCall() {
        CHECK.sentence("CALL", "Unless it is 0, all tables are as they were before");
        TriggerBase base = withChanges();
        define(base, Words.LOAD, 0, Words.CALL, 1, Words.RAISE);
        base.call(1, 0, 2000);
        for (int i = 0; i < 2; i++) {
            CHECK.due("ending", base.call(2, 0, 2000), 1);
            for (int table = 0; table < 4; table++) {
                CHECK.table("as the latest left them", base, table, new int[] {5, 77, 5}, new int[] {9, 9, 9});
            }
        }
    }
}
