/** Collects answers that are not the ones that are due, and ends the test with them. */
final class Check {
    private final String test;
    private String sentence = "";
    private int looked = 0;
    private int wrong = 0;

    Check(String test) {
        this.test = test;
    }

    /** Names the document's sentence that the answers from here on belong to. */
    void sentence(String where, String words) {
        sentence = where + ", \"" + words + "\": ";
    }

    void due(String what, long got, long want) {
        looked++;
        if (got != want) {
            wrong++;
            System.out.println(test + ": " + sentence + what + " answered " + got + ", due is " + want);
        }
    }

    void due(String what, boolean got, boolean want) {
        due(what, got ? 1 : 0, want ? 1 : 0);
    }

    /** Looks at all that is told of the latest call, in the order value, fuel, frames, triggers, changes. */
    void told(String what, TriggerBase base, int... want) {
        due(what + ": value", base.value(), want[0]);
        for (int i = 0; i < 4; i++) {
            due(what + ": count " + i, base.count(i), want[i + 1]);
        }
    }

    void table(String what, TriggerBase base, int table, int[]... rows) {
        due(what + ": rows of table " + table, base.rows(table), rows.length);
        for (int row = 0; row < rows.length; row++) {
            for (int column = 0; column < 3; column++) {
                String cell = what + ": cell " + table + ", " + row + ", " + column;
                due(cell, base.cell(table, row, column), rows[row][column]);
            }
        }
    }

    void finish() {
        System.out.println(test + ": " + looked + " answers, " + wrong + " not as due");
        if (wrong != 0) {
            System.exit(1);
        }
    }

    /** Opens a procedure, puts the words into it and closes it: what end answered. */
    static int define(TriggerBase base, int... words) {
        base.begin();
        for (int word : words) {
            base.emit(word);
        }
        return base.end();
    }

    /** Emits words until the open procedure has as many as are asked for: pushes and drops, so that none stays. */
    static void fillUp(TriggerBase base, int from, int upTo) {
        for (int place = from; place < upTo; place += 3) {
            base.emit(Words.PUSH);
            base.emit(7);
            base.emit(Words.DROP);
        }
    }

    /** Defines a procedure on a new object and calls it with plenty of fuel: what it returned. */
    int returned(String what, int argument, int... words) {
        TriggerBase base = new TriggerBase();
        due(what + ": end", define(base, words), 0);
        due(what + ": call", base.call(0, argument, 2000), 0);
        return base.value();
    }
}
