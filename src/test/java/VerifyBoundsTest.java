import java.util.Arrays;

/** Promise 4 and "TO VERIFY": each sentence that names a boundary case, in the document's words. */
public final class VerifyBoundsTest {
    private static final int MIN = Integer.MIN_VALUE;
    private static final int MAX = Integer.MAX_VALUE;
    private static final Check CHECK = new Check("VerifyBoundsTest");

    private static final int[] WITH_ONE_OPERAND = {
        Words.PUSH, Words.LOAD, Words.STORE, Words.JUMP, Words.JUMP_IF_ZERO, Words.SIZE, Words.INSERT, Words.DELETE,
        Words.OLD, Words.NEW, Words.CALL};
    private static final int[] WITH_TWO_OPERANDS = {Words.READ, Words.UPDATE, Words.FIND};

    public static void main(String[] args) {
        verifiedIsThere();
        placeAndRule();
        refusedIsGone();
        numberComesAgain();
        noneIsOpen();
        withoutWords();
        rule1();
        rule2();
        rule2AtTheEndOfSixty();
        rule3Locals();
        rule3Tables();
        rule3Columns();
        rule3Procedures();
        rule3NotOthers();
        rule4();
        rule4Allowed();
        rule5();
        rule6();
        rule6AtTwelve();
        rule6BehindEach();
        rule7();
        rule7SameHeight();
        rule8();
        rule8Nowhere();
        leastPlaceIsLookedAt();
        notReachedIsNotLookedAt();
        wordsBeforePlacesBeforeHeights();
        firstRuleOfTheWords();
        firstRuleOfTheHeights();
        behindItThenAtP();
        CHECK.finish();
    }

    private static int at(int place, int rule) {
        return 16 * place + rule;
    }

    /** The words are a procedure of their own, the first of a new object. */
    private static void ends(int want, int... words) {
        CHECK.due("end of " + Arrays.toString(words), Check.define(new TriggerBase(), words), want);
    }

    /** The words stand behind a return, where nothing is reached: only the rules 1 to 4 count. */
    private static void endsBehind(int want, int... words) {
        int[] all = new int[3 + words.length];
        all[0] = Words.PUSH;
        all[2] = Words.RETURN;
        System.arraycopy(words, 0, all, 3, words.length);
        ends(want, all);
    }

    /** Numbers are pushed to a height, the words follow. */
    private static void endsAtHeight(int height, int want, int... words) {
        int[] all = new int[2 * height + words.length];
        System.arraycopy(words, 0, all, 2 * height, words.length);
        ends(want, all);
    }

    private static void verifiedIsThere() {
        CHECK.sentence("Promise 4", "0 when it is verified (it is there then)");
        TriggerBase base = new TriggerBase();
        base.begin();
        base.emit(Words.PUSH);
        base.emit(9);
        base.emit(Words.RETURN);
        CHECK.due("call before", base.call(0, 0, 9), 6);
        CHECK.due("bind before", base.bind(0, 0, 0), 3);
        CHECK.due("end", base.end(), 0);
        CHECK.due("call", base.call(0, 0, 9), 0);
        CHECK.due("bind", base.bind(0, 0, 0), 0);
        CHECK.due("procedures", base.procedures(), 1);
        CHECK.due("a call of it", Check.define(base, Words.PUSH, 1, Words.CALL, 0, Words.RETURN), 0);
    }

    private static void placeAndRule() {
        CHECK.sentence("Promise 4", "otherwise 16 * the place + the rule");
        for (int place = 3; place < 60; place++) {
            int[] words = new int[place + 1];
            Arrays.fill(words, Words.RETURN);
            words[0] = Words.PUSH;
            words[place] = 27;
            ends(16 * place + 1, words);
        }
    }

    private static void refusedIsGone() {
        CHECK.sentence("Promise 4", "it is gone");
        TriggerBase base = new TriggerBase();
        Check.define(base, Words.PUSH, 1, Words.RETURN);
        CHECK.due("refused", Check.define(base, Words.PUSH, 2, Words.RETURN, 27), at(3, 1));
        CHECK.due("procedures", base.procedures(), 1);
        CHECK.due("call", base.call(1, 0, 9), 6);
        CHECK.due("bind", base.bind(0, 0, 1), 3);
        CHECK.due("end again", base.end(), -1);
        CHECK.due("emit", base.emit(Words.RETURN), false);
        CHECK.due("a call of it", Check.define(base, Words.PUSH, 1, Words.CALL, 1, Words.RETURN), at(2, 3));
        CHECK.due("the other is there", base.call(0, 0, 9), 0);
        CHECK.due("the other's value", base.value(), 1);
    }

    private static void numberComesAgain() {
        CHECK.sentence("Promise 4", "its number comes again");
        TriggerBase base = new TriggerBase();
        for (int number = 0; number < 12; number++) {
            CHECK.due("begin", base.begin(), number);
            Check.fillUp(base, 0, 60);
            CHECK.due("refused", base.end(), at(59, 8));
            CHECK.due("begin again", base.begin(), number);
            CHECK.due("no word is left", base.end(), 8);
            if (number < 4) {
                Check.define(base, Words.PUSH, number, Words.RETURN);
            } else {
                return;
            }
        }
    }

    private static void noneIsOpen() {
        CHECK.sentence("Promise 4", "-1 when none is open");
        TriggerBase base = new TriggerBase();
        CHECK.due("new", base.end(), -1);
        base.emit(Words.RETURN);
        CHECK.due("an emit opens none", base.end(), -1);
        Check.define(base, Words.PUSH, 1, Words.RETURN);
        CHECK.due("a verified one", base.end(), -1);
        Check.define(base, 27);
        CHECK.due("a refused one", base.end(), -1);
        CHECK.due("procedures", base.procedures(), 1);
        for (int number = 1; number < 12; number++) {
            Check.define(base, Words.PUSH, 1, Words.RETURN);
        }
        base.begin();
        CHECK.due("there are twelve", base.end(), -1);
        CHECK.due("procedures", base.procedures(), 12);
    }

    private static void withoutWords() {
        CHECK.sentence("Promise 4", "One without words: rule 8 at 0");
        TriggerBase base = new TriggerBase();
        base.begin();
        CHECK.due("new", base.end(), 8);
        Check.define(base, Words.PUSH, 1, Words.RETURN, 27);
        base.begin();
        CHECK.due("behind a refused one", base.end(), 8);
        Check.define(base, Words.PUSH, 1, Words.RETURN);
        base.begin();
        CHECK.due("behind a verified one", base.end(), 8);
        CHECK.due("procedures", base.procedures(), 1);
    }

    private static void rule1() {
        CHECK.sentence("Rule 1", "an instruction that is none");
        for (int word : new int[] {27, 28, -1, 59, 256, MIN, MAX}) {
            ends(at(0, 1), word);
            endsBehind(at(3, 1), word);
            endsBehind(at(3, 1), word, 0, 0);
        }
        endsBehind(0, Words.RETURN);
        endsBehind(0, Words.PUSH, 27);
    }

    private static void rule2() {
        CHECK.sentence("Rule 2", "one whose operands are not all there");
        for (int word : WITH_ONE_OPERAND) {
            ends(at(0, 2), word);
            endsBehind(at(3, 2), word);
        }
        for (int word : WITH_TWO_OPERANDS) {
            ends(at(0, 2), word);
            ends(at(0, 2), word, 0);
            endsBehind(at(3, 2), word);
            endsBehind(at(3, 2), word, 3);
            endsBehind(0, word, 3, 2);
        }
        for (int word : new int[] {1, 2, 3, 4, 5, 6, 7, 8, 9, 10, 11, 25, 26}) {
            endsBehind(0, word);
        }
    }

    private static void rule2AtTheEndOfSixty() {
        CHECK.sentence("Rule 2", "one whose operands are not all there");
        for (int missing = 0; missing < 2; missing++) {
            int[] words = new int[60];
            Arrays.fill(words, Words.RETURN);
            words[0] = Words.PUSH;
            words[59 - missing] = Words.READ;
            words[59] = missing == 0 ? Words.READ : 0;
            ends(at(59 - missing, 2), words);
        }
        int[] words = new int[60];
        Arrays.fill(words, Words.RETURN);
        words[0] = Words.PUSH;
        words[57] = Words.READ;
        words[58] = 0;
        words[59] = 2;
        ends(0, words);
    }

    private static void rule3Locals() {
        CHECK.sentence("Rule 3", "one with an operand out of bounds (3: a local");
        for (int word : new int[] {Words.LOAD, Words.STORE}) {
            for (int local = 0; local < 8; local++) {
                endsBehind(0, word, local);
            }
            for (int bad : new int[] {-1, 8, MIN, MAX}) {
                endsBehind(at(3, 3), word, bad);
            }
        }
    }

    private static void rule3Tables() {
        CHECK.sentence("Rule 3", "one with an operand out of bounds (3: a .. table");
        for (int word : new int[] {Words.SIZE, Words.INSERT, Words.DELETE}) {
            for (int table = 0; table < 4; table++) {
                endsBehind(0, word, table);
            }
            for (int bad : new int[] {-1, 4, MIN, MAX}) {
                endsBehind(at(3, 3), word, bad);
            }
        }
        for (int word : WITH_TWO_OPERANDS) {
            for (int table = 0; table < 4; table++) {
                endsBehind(0, word, table, 0);
            }
            for (int bad : new int[] {-1, 4, MIN, MAX}) {
                endsBehind(at(3, 3), word, bad, 0);
            }
        }
    }

    private static void rule3Columns() {
        CHECK.sentence("Rule 3", "one with an operand out of bounds (3: a .. column");
        for (int bad : new int[] {-1, 3, MIN, MAX}) {
            endsBehind(at(3, 3), Words.OLD, bad);
            endsBehind(at(3, 3), Words.NEW, bad);
            for (int word : WITH_TWO_OPERANDS) {
                endsBehind(at(3, 3), word, 0, bad);
                endsBehind(at(3, 3), word, bad, bad);
            }
        }
        for (int column = 0; column < 3; column++) {
            endsBehind(0, Words.OLD, column);
            endsBehind(0, Words.NEW, column);
            for (int word : WITH_TWO_OPERANDS) {
                endsBehind(0, word, 3, column);
            }
        }
    }

    private static void rule3Procedures() {
        CHECK.sentence("Rule 3", "a procedure that is not verified (this one is not yet)");
        TriggerBase base = new TriggerBase();
        for (int number = 0; number < 12; number++) {
            CHECK.due("itself", Check.define(base, Words.PUSH, 1, Words.CALL, number, Words.RETURN), at(2, 3));
            CHECK.due("the next", Check.define(base, Words.PUSH, 1, Words.CALL, number + 1, Words.RETURN), at(2, 3));
            int[] words = {Words.PUSH, 1, Words.RETURN, Words.CALL, number - 1};
            CHECK.due("the one before", Check.define(base, words), number == 0 ? at(3, 3) : 0);
            if (number == 0) {
                Check.define(base, Words.PUSH, 1, Words.RETURN);
            }
        }
        for (int bad : new int[] {-1, 12, MIN, MAX}) {
            endsBehind(at(3, 3), Words.CALL, bad);
        }
    }

    private static void rule3NotOthers() {
        CHECK.sentence("Rule 3", "not the n of 0, not places");
        for (int number : new int[] {MIN, -1, 8, 12, 60, MAX}) {
            endsBehind(0, Words.PUSH, number);
            endsBehind(at(3, 4), Words.JUMP, number);
            endsBehind(at(3, 4), Words.JUMP_IF_ZERO, number);
        }
    }

    private static void rule4() {
        CHECK.sentence("Rule 4", "a place that is not that of an instruction");
        for (int word : new int[] {Words.JUMP, Words.JUMP_IF_ZERO}) {
            endsBehind(at(3, 4), word, -1);
            endsBehind(at(3, 4), word, 1);
            endsBehind(at(3, 4), word, 4);
            endsBehind(at(3, 4), word, 5);
            endsBehind(at(3, 4), word, 59);
            endsBehind(at(3, 4), word, 60);
            endsBehind(at(3, 4), word, MIN);
            endsBehind(at(3, 4), word, MAX);
            endsBehind(at(3, 4), word, 7, Words.READ, 0, 0);
            endsBehind(at(3, 4), word, 8, Words.RETURN, Words.RETURN, Words.RETURN);
        }
        ends(at(0, 4), Words.JUMP, 1);
        ends(at(0, 4), Words.JUMP, 2);
    }

    private static void rule4Allowed() {
        CHECK.sentence("Rule 4", "a place that is not that of an instruction");
        for (int word : new int[] {Words.JUMP, Words.JUMP_IF_ZERO}) {
            endsBehind(0, word, 0);
            endsBehind(0, word, 2);
            endsBehind(0, word, 3);
            endsBehind(0, word, 7, Words.RETURN, Words.RETURN, Words.RETURN);
            int[] words = new int[60];
            Arrays.fill(words, Words.RETURN);
            words[0] = Words.PUSH;
            words[3] = word;
            words[4] = 59;
            ends(0, words);
        }
        // The words that a shorter procedure leaves behind are no instructions of it.
        TriggerBase base = new TriggerBase();
        Check.define(base, Words.PUSH, 1, Words.RETURN, Words.RETURN, Words.RETURN, Words.RETURN, Words.RETURN, 27);
        int[] shorter = {Words.PUSH, 1, Words.RETURN, Words.JUMP, 5};
        CHECK.due("a place behind the words", Check.define(base, shorter), at(3, 4));
    }

    private static void rule5() {
        CHECK.sentence("Rule 5", "takes more than its height");
        int[] one = {Words.DROP, Words.COPY, Words.NOT, Words.RAISE, Words.RETURN};
        int[] two = {Words.SWAP, Words.ADD, Words.SUBTRACT, Words.MULTIPLY, Words.DIVIDE, Words.REMAINDER, Words.LESS,
            Words.SAME};
        takes(1, one);
        takes(2, two);
        takes(1, Words.STORE, 0);
        takes(1, Words.JUMP_IF_ZERO, 0);
        takes(1, Words.READ, 0, 0);
        takes(1, Words.DELETE, 0);
        takes(2, Words.UPDATE, 0, 0);
        takes(2, Words.FIND, 0, 0);
        takes(3, Words.INSERT, 0);
        TriggerBase base = new TriggerBase();
        Check.define(base, Words.PUSH, 1, Words.RETURN);
        CHECK.due("a call takes one", Check.define(base, Words.CALL, 0, Words.RETURN), at(0, 5));
        CHECK.due("a call takes one", Check.define(base, Words.PUSH, 1, Words.CALL, 0, Words.RETURN), 0);
        for (int word : new int[] {Words.PUSH, Words.LOAD, Words.SIZE, Words.OLD, Words.NEW}) {
            ends(0, word, 0, Words.RETURN);
        }
        ends(0, Words.JUMP, 0);
    }

    /** Each of the words is an instruction without operands. */
    private static void takes(int needed, int[] words) {
        for (int word : words) {
            takes(needed, word);
        }
    }

    /** Enough on the stack is fine, one less is not; a number pushed behind it lets the return be. */
    private static void takes(int needed, int word, int... operands) {
        int[] words = new int[1 + operands.length + 3];
        words[0] = word;
        System.arraycopy(operands, 0, words, 1, operands.length);
        words[words.length - 1] = Words.RETURN;
        endsAtHeight(needed - 1, at(2 * (needed - 1), 5), words);
        if (word == Words.JUMP_IF_ZERO) {
            words[1] = 2 * needed + 2;
        }
        endsAtHeight(needed, 0, words);
    }

    private static void rule6() {
        CHECK.sentence("Rule 6", "the height behind it would be above 12");
        endsAtHeight(12, 0, Words.RETURN);
        endsAtHeight(13, at(24, 6), Words.RETURN);
        for (int word : new int[] {Words.PUSH, Words.LOAD, Words.SIZE, Words.OLD, Words.NEW}) {
            endsAtHeight(11, 0, word, 0, Words.RETURN);
            endsAtHeight(12, at(24, 6), word, 0, Words.RETURN);
        }
        endsAtHeight(11, 0, Words.COPY, Words.RETURN);
        endsAtHeight(12, at(24, 6), Words.COPY, Words.RETURN);
    }

    private static void rule6AtTwelve() {
        CHECK.sentence("Rule 6", "the height behind it would be above 12");
        endsAtHeight(12, 0, Words.SWAP, Words.RETURN);
        endsAtHeight(12, 0, Words.NOT, Words.RETURN);
        endsAtHeight(12, 0, Words.JUMP, 26, Words.RETURN);
        endsAtHeight(12, 0, Words.READ, 0, 0, Words.RETURN);
        endsAtHeight(12, 0, Words.DELETE, 0, Words.RETURN);
        endsAtHeight(12, 0, Words.ADD, Words.PUSH, 1, Words.RETURN);
        endsAtHeight(12, 0, Words.INSERT, 0, Words.PUSH, 1, Words.PUSH, 1, Words.RETURN);
        endsAtHeight(12, at(30, 6), Words.INSERT, 0, Words.PUSH, 1, Words.PUSH, 1, Words.PUSH, 1, Words.RETURN);
        endsAtHeight(12, 0, Words.RAISE);
    }

    private static void rule6BehindEach() {
        CHECK.sentence("Rule 6", "the height behind it would be above 12");
        leaves(11, Words.DROP);
        leaves(12, Words.SWAP);
        for (int word = Words.ADD; word <= Words.SAME; word++) {
            leaves(11, word);
        }
        leaves(12, Words.NOT);
        leaves(11, Words.STORE, 0);
        leaves(12, Words.JUMP, 26);
        leaves(11, Words.JUMP_IF_ZERO, 26);
        leaves(12, Words.READ, 0, 0);
        leaves(10, Words.INSERT, 0);
        leaves(12, Words.DELETE, 0);
        leaves(11, Words.UPDATE, 0, 0);
        leaves(11, Words.FIND, 0, 0);
    }

    /** At height 12 the instruction leaves some: pushes up to 12 again are fine, one more is not. */
    private static void leaves(int height, int... instruction) {
        int pushes = 12 - height;
        int behind = 24 + instruction.length;
        for (int more = 0; more < 2; more++) {
            int[] words = new int[instruction.length + 2 * (pushes + more) + 1];
            System.arraycopy(instruction, 0, words, 0, instruction.length);
            words[words.length - 1] = Words.RETURN;
            endsAtHeight(12, more == 0 ? 0 : at(behind + 2 * pushes, 6), words);
        }
    }

    private static void rule7() {
        CHECK.sentence("Rule 7", "was reached with another height");
        // A loop that leaves one more, one that leaves one less.
        ends(at(2, 7), Words.PUSH, 1, Words.JUMP, 0);
        ends(at(3, 7), Words.PUSH, 1, Words.DROP, Words.JUMP, 2);
        // Two ways to one place: the one that comes later is at fault, whether by a jump or by going on behind.
        ends(at(6, 7), Words.LOAD, 0, Words.JUMP_IF_ZERO, 8, Words.PUSH, 1, Words.PUSH, 2, Words.RETURN);
        ends(at(8, 7), Words.PUSH, 0, Words.PUSH, 0, Words.JUMP_IF_ZERO, 8, Words.JUMP, 10, Words.PUSH, 5,
                Words.RETURN);
        // Heights 12 and 0 are heights as others.
        endsAtHeight(12, at(24, 7), Words.JUMP, 0);
        ends(at(3, 7), Words.PUSH, 1, Words.DROP, Words.JUMP, 2);
        // A branch to its own place takes what it looks at.
        ends(at(4, 7), Words.PUSH, 1, Words.PUSH, 1, Words.JUMP_IF_ZERO, 4, Words.RETURN);
    }

    private static void rule7SameHeight() {
        CHECK.sentence("Rule 7", "was reached with another height");
        ends(0, Words.JUMP, 0);
        ends(0, Words.PUSH, 1, Words.DROP, Words.JUMP, 0);
        ends(0, Words.PUSH, 1, Words.JUMP, 2);
        ends(0, Words.PUSH, 1, Words.JUMP_IF_ZERO, 0, Words.JUMP, 0);
        ends(0, Words.PUSH, 1, Words.PUSH, 1, Words.JUMP_IF_ZERO, 6, Words.RETURN);
        ends(0, Words.LOAD, 0, Words.JUMP_IF_ZERO, 8, Words.PUSH, 1, Words.JUMP, 10, Words.PUSH, 2, Words.RETURN);
        endsAtHeight(12, 0, Words.JUMP, 24);
    }

    private static void rule8() {
        CHECK.sentence("Rule 8", "where it goes on .. is behind the words");
        ends(at(0, 8), Words.PUSH, 1);
        ends(at(2, 8), Words.PUSH, 1, Words.DROP);
        ends(at(2, 8), Words.PUSH, 1, Words.NOT);
        ends(at(2, 8), Words.PUSH, 1, Words.READ, 0, 0);
        ends(at(2, 8), Words.PUSH, 1, Words.JUMP_IF_ZERO, 0);
        ends(at(3, 8), Words.JUMP, 3, Words.RETURN, Words.SIZE, 0);
        int[] words = new int[60];
        Arrays.fill(words, Words.NOT);
        words[0] = Words.PUSH;
        ends(at(59, 8), words);
        words[57] = Words.DROP;
        words[58] = Words.PUSH;
        ends(at(58, 8), words);
    }

    private static void rule8Nowhere() {
        CHECK.sentence("Rule 8", "nowhere for 25, 26");
        ends(0, Words.PUSH, 1, Words.RAISE);
        ends(0, Words.PUSH, 1, Words.RETURN);
        ends(0, Words.PUSH, 1, Words.JUMP, 2);
        int[] words = new int[60];
        Arrays.fill(words, Words.NOT);
        words[0] = Words.PUSH;
        words[59] = Words.RAISE;
        ends(0, words);
        words[59] = Words.RETURN;
        ends(0, words);
        // What stands behind them is not reached with their height.
        ends(0, Words.PUSH, 1, Words.JUMP_IF_ZERO, 7, Words.PUSH, 2, Words.RAISE, Words.PUSH, 3, Words.RETURN);
        ends(0, Words.PUSH, 1, Words.JUMP_IF_ZERO, 7, Words.PUSH, 2, Words.RETURN, Words.PUSH, 3, Words.RETURN);
        ends(0, Words.PUSH, 1, Words.JUMP, 6, Words.PUSH, 9, Words.RETURN);
    }

    private static void leastPlaceIsLookedAt() {
        CHECK.sentence("TO VERIFY", "as long as there are reached places that were not looked at, the least one is");
        // Place 4 and place 7 are both at fault and both reached: behind the branch and at its place.
        ends(at(4, 5), Words.PUSH, 1, Words.JUMP_IF_ZERO, 7, Words.ADD, Words.PUSH, 1, Words.ADD, Words.RETURN);
        // The branch goes back to place 2, which is looked at before place 8 behind it.
        ends(at(2, 5), Words.JUMP, 4, Words.ADD, Words.RETURN, Words.PUSH, 0, Words.JUMP_IF_ZERO, 2,
                Words.ADD, Words.RETURN);
        // Place 2 is least once it is reached: from there 12 gets height 1, so that 10 is at fault, not 4.
        ends(at(10, 7), Words.JUMP, 6, Words.PUSH, 5, Words.JUMP, 12, Words.PUSH, 0, Words.JUMP_IF_ZERO, 2,
                Words.JUMP, 12, Words.RETURN);
    }

    private static void notReachedIsNotLookedAt() {
        CHECK.sentence("TO VERIFY", "Then it is REACHED: place 0 with HEIGHT 0");
        endsBehind(0, Words.ADD);
        endsBehind(0, Words.DROP, Words.DROP);
        endsBehind(0, Words.PUSH, 1);
        endsBehind(0, Words.JUMP, 2);
        ends(at(0, 5), Words.RETURN);
        ends(at(0, 5), Words.RAISE);
        int[] pushes = new int[57];
        endsBehind(at(59, 2), pushes);
        endsBehind(0, Arrays.copyOf(pushes, 56));
    }

    private static void wordsBeforePlacesBeforeHeights() {
        CHECK.sentence("TO VERIFY", "first its words are gone over .. Then, over again .. Then it is REACHED");
        ends(at(3, 1), Words.ADD, Words.JUMP, 1, 27);
        ends(at(3, 2), Words.ADD, Words.JUMP, 1, Words.PUSH);
        ends(at(3, 3), Words.ADD, Words.JUMP, 1, Words.LOAD, 8);
        ends(at(1, 4), Words.ADD, Words.JUMP, 2);
        ends(at(0, 5), Words.ADD, Words.JUMP, 1);
        ends(at(3, 4), Words.PUSH, 1, Words.DROP, Words.JUMP, 5);
    }

    private static void firstRuleOfTheWords() {
        CHECK.sentence("TO VERIFY", "The first rule that is broken counts, with the place of its instruction");
        endsBehind(at(3, 3), Words.LOAD, 8, 27);
        endsBehind(at(3, 3), Words.LOAD, 8, Words.PUSH);
        endsBehind(at(3, 1), 27, Words.LOAD, 8);
        endsBehind(at(3, 1), 27, Words.PUSH);
        endsBehind(at(3, 2), Words.READ, 4);
        endsBehind(at(3, 3), Words.READ, 4, 27);
        endsBehind(at(3, 1), 27, 28);
        endsBehind(at(3, 4), Words.JUMP, 1, Words.JUMP, 4);
        endsBehind(at(5, 4), Words.JUMP, 3, Words.JUMP, 4);
    }

    private static void firstRuleOfTheHeights() {
        CHECK.sentence("TO VERIFY", "The first rule that is broken counts, with the place of its instruction");
        // 5 before 6, 7 and 8 at one place; 6 before 7 and 8; 8 before 7 (behind it, then at p).
        ends(at(0, 5), Words.DROP);
        ends(at(0, 5), Words.COPY);
        endsAtHeight(12, at(24, 6), Words.PUSH, 1);
        endsAtHeight(12, at(24, 6), Words.COPY);
        // 5, 6, 7 and 8 at places one behind another: the least place counts, not the least rule.
        ends(at(4, 7), Words.PUSH, 1, Words.PUSH, 1, Words.JUMP_IF_ZERO, 0, Words.ADD);
        ends(at(2, 7), Words.PUSH, 1, Words.JUMP, 0, Words.ADD);
        ends(at(3, 5), Words.PUSH, 1, Words.DROP, Words.DROP, Words.PUSH, 1);
    }

    private static void behindItThenAtP() {
        CHECK.sentence("TO VERIFY", "for 15 behind it, then at p");
        ends(at(4, 8), Words.PUSH, 1, Words.PUSH, 1, Words.JUMP_IF_ZERO, 0);
        ends(at(2, 8), Words.PUSH, 1, Words.JUMP_IF_ZERO, 2);
        // One of the two ways is enough for a fault: here the place, then what is behind.
        ends(at(4, 7), Words.PUSH, 1, Words.PUSH, 1, Words.JUMP_IF_ZERO, 0, Words.RETURN);
        ends(at(6, 7), Words.PUSH, 1, Words.PUSH, 1, Words.JUMP_IF_ZERO, 8, Words.JUMP_IF_ZERO, 0, Words.RETURN);
    }
}
