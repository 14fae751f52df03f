import java.util.ArrayList;
import java.util.Arrays;
import java.util.List;
import java.util.Random;

/** All promises: many runs of calls, always the same, in which the class and the model must answer alike. */
public final class ModelTest {
    private static final int RUNS = 6000;
    private static final int CALLS = 512;
    /** Kept back for the last procedure that is defined, and for a look at every cell at last. */
    private static final int LAST_CALLS = 90 + 4 * 16 * 3;
    private static final Check CHECK = new Check("ModelTest");
    private static final int[] ENDINGS = new int[7];
    private static final int[] RULES = new int[9];
    private static final int[] TAKES = {
        0, 1, 1, 2, 2, 2, 2, 2, 2, 2, 2, 1, 0, 1, 0, 1, 0, 1, 3, 1, 2, 2, 0, 0, 1, 1, 1};
    private static final int[] CHANGES = {
        1, -1, 1, 0, -1, -1, -1, -1, -1, -1, -1, 0, 1, -1, 0, -1, 1, 0, -2, 0, -1, -1, 1, 1, 0, -1, -1};

    private final Random random;
    private final String run;
    private final TriggerBase base = new TriggerBase();
    private final Model model = new Model();
    private int calls = 1;

    private ModelTest(int seed) {
        random = new Random(seed);
        run = "run " + seed + ", call ";
    }

    public static void main(String[] args) {
        for (int seed = 0; seed < RUNS; seed++) {
            new ModelTest(seed).play();
        }
        // The runs are worth something only if they come to every ending and every rule.
        for (int ending = 0; ending < ENDINGS.length; ending++) {
            CHECK.due("runs come to ending " + ending, ENDINGS[ending] > 100, true);
        }
        for (int rule = 0; rule < RULES.length; rule++) {
            CHECK.due("runs come to rule " + rule, RULES[rule] > 100, true);
        }
        System.out.println("ModelTest: endings " + Arrays.toString(ENDINGS) + ", rules " + Arrays.toString(RULES));
        CHECK.finish();
    }

    private void play() {
        define();
        while (calls < CALLS - LAST_CALLS) {
            int what = random.nextInt(20);
            if (what < 3 || model.procedures() == 0) {
                define();
            } else if (what < 6) {
                bindOrUnbind();
            } else {
                callAndLook();
            }
        }
        lookAtTables();
        CHECK.due(run + "at most 512 calls", calls <= CALLS, true);
    }

    private void same(String what, int got, int want) {
        calls++;
        CHECK.due(run + calls + ": " + what, got, want);
    }

    private void same(String what, boolean got, boolean want) {
        same(what, got ? 1 : 0, want ? 1 : 0);
    }

    private void define() {
        if (random.nextInt(8) == 0) {
            same("emit", base.emit(1), model.emit(1));
            same("end", base.end(), model.end());
        }
        same("begin", base.begin(), model.begin());
        List<Integer> words = random.nextInt(6) == 0 ? anyWords() : likelyWords();
        for (int word : words) {
            same("emit", base.emit(word), model.emit(word));
        }
        if (random.nextInt(10) == 0) {
            same("begin", base.begin(), model.begin());
            same("procedures", base.procedures(), model.procedures());
            callAndLook();
        }
        int fault = model.end();
        RULES[fault < 0 ? 0 : fault % 16]++;
        same("end of " + words, base.end(), fault);
        same("procedures", base.procedures(), model.procedures());
    }

    private List<Integer> anyWords() {
        List<Integer> words = new ArrayList<>();
        int length = random.nextInt(12);
        for (int i = 0; i < length; i++) {
            words.add(random.nextInt(30) - 1);
        }
        return words;
    }

    /** Words whose heights fit, with places of fitting height; now and then one of them is changed. */
    private List<Integer> likelyWords() {
        List<Integer> words = new ArrayList<>();
        List<int[]> starts = new ArrayList<>();
        List<int[]> jumps = new ArrayList<>();
        int instructions = 2 + random.nextInt(16);
        boolean steep = random.nextInt(10) == 0;
        int height = 0;
        for (int i = 0; i < instructions; i++) {
            int word = steep && random.nextInt(5) > 0 ? random.nextInt(2) * 12 : likelyInstruction(height);
            starts.add(new int[] {words.size(), height});
            height += CHANGES[word];
            if (word == 14 || word == 15) {
                jumps.add(new int[] {words.size() + 1, height});
            }
            words.add(word);
            addOperands(words, word);
        }
        starts.add(new int[] {words.size(), height});
        if (height == 0) {
            words.add(12);
            words.add(0);
        }
        words.add(random.nextInt(12) == 0 ? 25 : 26);
        for (int[] jump : jumps) {
            setPlace(words, jump, starts);
        }
        if (random.nextInt(4) == 0) {
            words.set(random.nextInt(words.size()), random.nextInt(40) - 2);
        }
        if (random.nextInt(30) == 0) {
            words.remove(words.size() - 1);
        }
        return words;
    }

    private int likelyInstruction(int height) {
        int[] fitting = {0, 12, 16, 22, 23, 0, 0, 12};
        if (height >= 3 && random.nextInt(3) == 0) {
            return 18;
        }
        for (int tries = 0; tries < 20; tries++) {
            int word = random.nextInt(100) < 40 ? 17 + random.nextInt(5) : random.nextInt(25);
            if (TAKES[word] <= height && (height < 5 || CHANGES[word] <= 0 || random.nextInt(8) == 0)
                    && (word != 24 || model.procedures() > 0) && (word != 14 || random.nextInt(5) == 0)) {
                return word;
            }
        }
        return fitting[random.nextInt(fitting.length)];
    }

    private void addOperands(List<Integer> words, int word) {
        switch (word) {
            case 0 -> words.add(number());
            case 12, 13 -> words.add(random.nextInt(8) * random.nextInt(2));
            case 14, 15 -> words.add(0);
            case 16, 18, 19 -> words.add(table());
            case 17, 20, 21 -> {
                words.add(table());
                words.add(random.nextInt(3));
            }
            case 22, 23 -> words.add(random.nextInt(3));
            case 24 -> words.add(random.nextInt(Math.max(1, model.procedures())));
            default -> { }
        }
    }

    private int procedure() {
        boolean perhapsNone = random.nextInt(14) == 0;
        return perhapsNone ? random.nextInt(16) - 2 : random.nextInt(Math.max(1, model.procedures()));
    }

    private int table() {
        return random.nextInt(3) == 0 ? random.nextInt(4) : 0;
    }

    private void setPlace(List<Integer> words, int[] jump, List<int[]> starts) {
        for (int tries = 0; tries < 30; tries++) {
            int[] start = starts.get(random.nextInt(starts.size()));
            boolean forward = start[0] > jump[0];
            if ((start[1] == jump[1] || random.nextInt(60) == 0) && (forward || random.nextInt(4) == 0)) {
                words.set(jump[0], start[0]);
                return;
            }
        }
    }

    private int number() {
        return switch (random.nextInt(12)) {
            case 0 -> random.nextInt();
            case 1 -> Integer.MIN_VALUE;
            case 2 -> Integer.MAX_VALUE;
            case 3 -> -1;
            default -> random.nextInt(5);
        };
    }

    private void bindOrUnbind() {
        int table = random.nextInt(12) == 0 ? random.nextInt(7) - 2 : table();
        int event = random.nextInt(12) == 0 ? random.nextInt(6) - 2 : random.nextInt(3);
        int procedure = procedure();
        if (random.nextInt(3) > 0) {
            same("bind", base.bind(table, event, procedure), model.bind(table, event, procedure));
        } else {
            same("unbind", base.unbind(table, event), model.unbind(table, event));
        }
    }

    private void callAndLook() {
        int procedure = procedure();
        int argument = number();
        int fuel = random.nextInt(4) == 0 ? random.nextInt(60) - 3 : random.nextInt(2300);
        int ending = model.call(procedure, argument, fuel);
        ENDINGS[ending]++;
        same("call", base.call(procedure, argument, fuel), ending);
        same("value", base.value(), model.value());
        for (int i = 0; i < 3; i++) {
            int what = random.nextInt(6) - 1;
            same("count " + what, base.count(what), model.count(what));
        }
        for (int i = 0; i < 2; i++) {
            int table = random.nextInt(6) - 1;
            same("rows " + table, base.rows(table), model.rows(table));
        }
        for (int i = 0; i < 3; i++) {
            int table = table();
            int row = random.nextInt(18) - 1;
            int column = random.nextInt(5) - 1;
            same("cell", base.cell(table, row, column), model.cell(table, row, column));
        }
    }

    private void lookAtTables() {
        for (int table = 0; table < 4; table++) {
            for (int row = 0; row < 16; row++) {
                for (int column = 0; column < 3; column++) {
                    same("cell", base.cell(table, row, column), model.cell(table, row, column));
                }
            }
        }
    }
}
