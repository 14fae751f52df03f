import java.util.Arrays;

/** Promise 4: the rules 1 to 8, the order in which they count, and the place that is told. */
public final class VerifyTest {
    private static final Check CHECK = new Check("VerifyTest");

    /** How many numbers each instruction takes and gives, and how many operands it has. */
    private static final int[][] SHAPES = {
        {0, 1, 1}, {1, 0, 0}, {1, 2, 0}, {2, 2, 0}, {2, 1, 0}, {2, 1, 0}, {2, 1, 0}, {2, 1, 0}, {2, 1, 0},
        {2, 1, 0}, {2, 1, 0}, {1, 1, 0}, {0, 1, 1}, {1, 0, 1}, {0, 0, 1}, {1, 0, 1}, {0, 1, 1}, {1, 1, 2},
        {3, 1, 1}, {1, 1, 1}, {2, 1, 2}, {2, 1, 2}, {0, 1, 1}, {0, 1, 1}, {1, 1, 1}, {1, 0, 0}, {1, 0, 0},
    };

    public static void main(String[] args) {
        wordsThatAreNone();
        operandsMissing();
        operandsOutOfBounds();
        procedureOperand();
        operandsOutOfBoundsCountInOrder();
        places();
        whatEachTakes();
        whatEachGives();
        heights();
        otherHeights();
        behindTheWords();
        leastPlaceFirst();
        manyInstructions();
        CHECK.finish();
    }

    private static void ends(int want, int... words) {
        TriggerBase base = new TriggerBase();
        String what = "end of " + Arrays.toString(words);
        CHECK.due(what, Check.define(base, words), want);
        CHECK.due(what + ": procedures", base.procedures(), want == 0 ? 1 : 0);
    }

    private static int at(int place, int rule) {
        return 16 * place + rule;
    }

    private static void wordsThatAreNone() {
        ends(at(0, 1), 27);
        ends(at(0, 1), -1);
        ends(at(0, 1), Integer.MAX_VALUE);
        ends(at(0, 1), Integer.MIN_VALUE);
        ends(at(3, 1), 0, 1, 26, 27);
        ends(at(3, 1), 0, 27, 26, 28, 12, 9);
        ends(at(1, 1), 1, 27);
    }

    private static void operandsMissing() {
        for (int word = 0; word < SHAPES.length; word++) {
            if (SHAPES[word][2] > 0) {
                ends(at(0, 2), word);
                ends(at(3, 2), 0, 1, 26, word);
            }
            if (SHAPES[word][2] > 1) {
                ends(at(0, 2), word, 0);
                ends(at(0, 2), word, 9);
                ends(at(3, 2), 0, 1, 26, word, 3);
            }
        }
    }

    private static void operandsOutOfBounds() {
        bounded(7, 12, 13);
        bounded(3, 16, 18, 19);
        bounded(2, 22, 23);
        for (int word : new int[] {17, 20, 21}) {
            for (int bad : new int[] {-1, 4, Integer.MIN_VALUE}) {
                ends(at(3, 3), 0, 1, 26, word, bad, 0);
            }
            for (int bad : new int[] {-1, 3, Integer.MAX_VALUE}) {
                ends(at(3, 3), 0, 1, 26, word, 0, bad);
            }
            ends(0, 0, 1, 26, word, 3, 2);
            ends(0, 0, 1, 26, word, 0, 0);
        }
        ends(0, 0, Integer.MIN_VALUE, 26);
        ends(0, 0, 1, 26, 0, Integer.MAX_VALUE);
    }

    /** Behind a return nothing is reached, so that only the rules 1 to 4 count there. */
    private static void bounded(int greatest, int... words) {
        for (int word : words) {
            ends(0, 0, 1, 26, word, 0);
            ends(0, 0, 1, 26, word, greatest);
            ends(at(3, 3), 0, 1, 26, word, -1);
            ends(at(3, 3), 0, 1, 26, word, greatest + 1);
            ends(at(3, 3), 0, 1, 26, word, Integer.MIN_VALUE);
        }
    }

    private static void procedureOperand() {
        ends(at(2, 3), 0, 1, 24, 0, 26);
        ends(at(2, 3), 0, 1, 24, -1, 26);
        TriggerBase base = new TriggerBase();
        CHECK.due("first", Check.define(base, 0, 1, 26), 0);
        CHECK.due("calls the first", Check.define(base, 0, 1, 24, 0, 26), 0);
        CHECK.due("calls itself", Check.define(base, 0, 1, 24, 2, 26), at(2, 3));
        CHECK.due("calls a later one", Check.define(base, 0, 1, 24, 3, 26), at(2, 3));
        CHECK.due("calls none", Check.define(base, 0, 1, 24, -1, 26), at(2, 3));
        CHECK.due("calls the second", Check.define(base, 0, 1, 24, 1, 26), 0);
    }

    private static void operandsOutOfBoundsCountInOrder() {
        ends(at(0, 3), 12, 8, 99);
        ends(at(0, 3), 12, 8, 0);
        ends(at(2, 3), 14, 77, 12, 8);
        ends(at(2, 1), 14, 77, 99);
        ends(at(3, 2), 1, 14, 77, 0);
        ends(at(1, 4), 4, 14, 9, 26);
    }

    private static void places() {
        for (int word : new int[] {14, 15}) {
            ends(at(3, 4), 0, 1, 26, word, 1);
            ends(at(3, 4), 0, 1, 26, word, 4);
            ends(at(3, 4), 0, 1, 26, word, 5);
            ends(at(3, 4), 0, 1, 26, word, 60);
            ends(at(3, 4), 0, 1, 26, word, -1);
            ends(at(3, 4), 0, 1, 26, word, Integer.MIN_VALUE);
            ends(at(3, 4), 0, 1, 26, word, Integer.MAX_VALUE);
            ends(0, 0, 1, 26, word, 0);
            ends(0, 0, 1, 26, word, 3);
        }
        ends(at(0, 4), 14, 1);
        ends(at(0, 4), 14, 2);
        ends(at(0, 4), 15, -1, 26);
        ends(at(1, 4), 1, 14, 99, 14, 98);
        ends(at(3, 4), 1, 14, 0, 14, 98);
    }

    private static void whatEachTakes() {
        for (int word = 0; word < SHAPES.length; word++) {
            if (word == 24) {
                continue;
            }
            for (int height = 0; height < 4; height++) {
                int place = 2 * height;
                boolean enough = height >= SHAPES[word][0];
                int want = enough ? 0 : at(place, 5);
                int[] words = pushesThen(height, word);
                if (enough && height - SHAPES[word][0] + SHAPES[word][1] == 0 && goesOn(word)) {
                    want = at(words.length - 1, 5);
                }
                ends(want, words);
            }
        }
        TriggerBase base = new TriggerBase();
        Check.define(base, 0, 1, 26);
        CHECK.due("a call takes one", Check.define(base, 24, 0, 26), at(0, 5));
        CHECK.due("a call gives one", Check.define(base, 0, 1, 24, 0, 26), 0);
        CHECK.due("a call gives only one", Check.define(base, 0, 1, 24, 0, 4, 26), at(4, 5));
    }

    private static boolean goesOn(int word) {
        return word != 25 && word != 26;
    }

    /** Pushes, the instruction (a place, if it names one, is the return's), a return. */
    private static int[] pushesThen(int height, int word) {
        int operands = SHAPES[word][2];
        int[] words = new int[2 * height + 1 + operands + 1];
        words[2 * height] = word;
        words[words.length - 1] = 26;
        if (word == 14 || word == 15) {
            words[2 * height + 1] = words.length - 1;
        }
        return words;
    }

    private static void whatEachGives() {
        for (int word = 0; word < SHAPES.length; word++) {
            if (word == 24 || !goesOn(word)) {
                continue;
            }
            int left = 4 - SHAPES[word][0] + SHAPES[word][1];
            gives(word, left, 0);
            gives(word, left + 1, 5);
        }
    }

    /** With four numbers on the stack, the instruction leaves as many as can be dropped. */
    private static void gives(int word, int drops, int rule) {
        int operands = SHAPES[word][2];
        int behind = 8 + 1 + operands;
        int[] words = new int[behind + drops + 3];
        words[8] = word;
        if (word == 14 || word == 15) {
            words[9] = behind;
        }
        for (int i = 0; i < drops; i++) {
            words[behind + i] = 1;
        }
        words[behind + drops + 2] = 26;
        ends(rule == 0 ? 0 : at(behind + drops - 1, rule), words);
    }

    private static void heights() {
        int[] twelve = new int[25];
        twelve[24] = 26;
        ends(0, twelve);
        int[] thirteen = new int[27];
        thirteen[26] = 26;
        ends(at(24, 6), thirteen);
        int[] copied = new int[26];
        copied[24] = 2;
        copied[25] = 26;
        ends(at(24, 6), copied);
        int[] swapped = new int[26];
        swapped[24] = 3;
        swapped[25] = 26;
        ends(0, swapped);
        int[] tooHighAndBehind = new int[26];
        ends(at(24, 6), tooHighAndBehind);
    }

    private static void otherHeights() {
        ends(at(2, 7), 0, 1, 14, 0);
        ends(at(4, 7), 0, 1, 0, 1, 15, 0, 26);
        ends(0, 14, 0);
        ends(0, 0, 1, 15, 0, 0, 1, 26);
        ends(at(4, 7), 12, 0, 15, 6, 0, 1, 0, 2, 26);
        ends(0, 12, 0, 15, 8, 0, 3, 14, 10, 0, 4, 26);
    }

    private static void behindTheWords() {
        ends(8);
        ends(at(0, 8), 0, 1);
        ends(at(2, 8), 0, 1, 1);
        ends(at(2, 8), 0, 1, 15, 0);
        ends(at(2, 8), 0, 1, 15, 2);
        ends(at(0, 5), 15, 0);
        ends(0, 0, 1, 25);
        ends(0, 0, 1, 26, 0, 1);
    }

    private static void leastPlaceFirst() {
        // Two faulty places wait: the lesser one counts, whether it is the branch's own place or behind it.
        ends(at(2, 5), 14, 4, 4, 26, 0, 0, 15, 2, 4, 26);
        ends(at(4, 5), 0, 1, 15, 5, 4, 4, 26);
        // Two ways with other heights meet at 10: the one that comes there later is at fault.
        ends(at(8, 7), 0, 0, 15, 8, 0, 1, 14, 10, 14, 10, 26);
        // A branch goes on behind itself first: rule 8 there counts before rule 7 at its place.
        ends(at(4, 8), 0, 1, 0, 1, 15, 0);
    }

    /** Sixty words hold 59 instructions at most: the first one of a procedure that goes on has an operand. */
    private static void manyInstructions() {
        int[] words = new int[60];
        Arrays.fill(words, 2, 60, 11);
        ends(at(59, 8), words);
        words[59] = 4;
        ends(at(59, 5), words);
        words[59] = 26;
        ends(0, words);
    }
}
