import java.util.ArrayList;
import java.util.Arrays;
import java.util.HashMap;
import java.util.List;
import java.util.Map;
import java.util.TreeSet;

/** The document once more, in the plainest way and with the whole Java library: runs recurse, tables are lists. */
final class Model {
    private static final class Ended extends RuntimeException {
        private static final long serialVersionUID = 1L;
        private final int how;
        private final int value;

        Ended(int how, int value) {
            this.how = how;
            this.value = value;
        }
    }

    private static final int[] TAKES = {
        0, 1, 1, 2, 2, 2, 2, 2, 2, 2, 2, 1, 0, 1, 0, 1, 0, 1, 3, 1, 2, 2, 0, 0, 1, 1, 1};
    private static final int[] GIVES = {
        1, 0, 2, 2, 1, 1, 1, 1, 1, 1, 1, 1, 1, 0, 0, 0, 1, 1, 1, 1, 1, 1, 1, 1, 1, 0, 0};
    /** A letter an operand: number, local, place, table, column, procedure. */
    private static final String[] OPERANDS = {
        "n", "", "", "", "", "", "", "", "", "", "", "", "l", "l", "p", "p",
        "t", "tc", "t", "t", "tc", "tc", "c", "c", "q", "", ""};

    private List<List<int[]>> tables = new ArrayList<>();
    private final List<int[]> procedures = new ArrayList<>();
    private final Map<List<Integer>, Integer> triggers = new HashMap<>();
    private List<Integer> open = null;
    private int value = 0;
    private int[] counts = new int[4];
    private int fuel = 0;

    Model() {
        for (int i = 0; i < 4; i++) {
            tables.add(new ArrayList<>());
        }
    }

    int begin() {
        if (open != null) {
            return -1;
        }
        if (procedures.size() == 12) {
            return -2;
        }
        open = new ArrayList<>();
        return procedures.size();
    }

    boolean emit(int word) {
        return open != null && open.size() < 60 && open.add(word);
    }

    int end() {
        if (open == null) {
            return -1;
        }
        int[] words = open.stream().mapToInt(Integer::intValue).toArray();
        open = null;
        int fault = verify(words);
        if (fault == 0) {
            procedures.add(words);
        }
        return fault;
    }

    int procedures() {
        return procedures.size();
    }

    int bind(int table, int event, int procedure) {
        if (table < 0 || table > 3) {
            return 1;
        }
        if (event < 0 || event > 2) {
            return 2;
        }
        if (procedure < 0 || procedure >= procedures.size()) {
            return 3;
        }
        triggers.put(List.of(table, event), procedure);
        return 0;
    }

    boolean unbind(int table, int event) {
        return triggers.remove(List.of(table, event)) != null;
    }

    int value() {
        return value;
    }

    int count(int what) {
        return what < 0 || what > 3 ? -1 : counts[what];
    }

    int rows(int table) {
        return table < 0 || table > 3 ? -1 : tables.get(table).size();
    }

    int cell(int table, int row, int column) {
        boolean there = row >= 0 && row < rows(table) && column >= 0 && column < 3;
        return there ? tables.get(table).get(row)[column] : 0;
    }

    private int verify(int[] words) {
        List<Integer> starts = new ArrayList<>();
        for (int place = 0; place < words.length; place += 1 + OPERANDS[words[place]].length()) {
            int word = words[place];
            if (word < 0 || word > 26) {
                return 16 * place + 1;
            }
            String kinds = OPERANDS[word];
            if (place + kinds.length() >= words.length) {
                return 16 * place + 2;
            }
            for (int i = 0; i < kinds.length(); i++) {
                int operand = words[place + 1 + i];
                char kind = kinds.charAt(i);
                int bound = kind == 'l' ? 8 : kind == 't' ? 4 : kind == 'c' ? 3 : procedures.size();
                if (kind != 'n' && kind != 'p' && (operand < 0 || operand >= bound)) {
                    return 16 * place + 3;
                }
            }
            starts.add(place);
        }
        for (int place : starts) {
            if (OPERANDS[words[place]].equals("p") && !starts.contains(words[place + 1])) {
                return 16 * place + 4;
            }
        }
        return verifyHeights(words);
    }

    private static int verifyHeights(int[] words) {
        if (words.length == 0) {
            return 8;
        }
        Map<Integer, Integer> heights = new HashMap<>();
        TreeSet<Integer> waiting = new TreeSet<>();
        heights.put(0, 0);
        waiting.add(0);
        while (!waiting.isEmpty()) {
            int place = waiting.pollFirst();
            int word = words[place];
            int height = heights.get(place) - TAKES[word];
            if (height < 0) {
                return 16 * place + 5;
            }
            height += GIVES[word];
            if (height > 12) {
                return 16 * place + 6;
            }
            List<Integer> next = new ArrayList<>();
            if (word != 14 && word != 25 && word != 26) {
                next.add(place + 1 + OPERANDS[word].length());
            }
            if (word == 14 || word == 15) {
                next.add(words[place + 1]);
            }
            for (int p : next) {
                if (p == words.length) {
                    return 16 * place + 8;
                }
                Integer before = heights.putIfAbsent(p, height);
                if (before == null) {
                    waiting.add(p);
                } else if (before != height) {
                    return 16 * place + 7;
                }
            }
        }
        return 0;
    }

    int call(int procedure, int argument, int givenFuel) {
        value = 0;
        counts = new int[4];
        if (procedure < 0 || procedure >= procedures.size()) {
            return 6;
        }
        List<List<int[]>> before = copyOfTables();
        fuel = givenFuel < 0 ? 0 : givenFuel > 2000 ? 2000 : givenFuel;
        try {
            value = run(procedure, argument, new int[3], new int[3], 1);
            return 0;
        } catch (Ended ended) {
            tables = before;
            value = ended.value;
            return ended.how;
        }
    }

    private List<List<int[]>> copyOfTables() {
        List<List<int[]>> copy = new ArrayList<>();
        for (List<int[]> table : tables) {
            List<int[]> rows = new ArrayList<>();
            for (int[] row : table) {
                rows.add(row.clone());
            }
            copy.add(rows);
        }
        return copy;
    }

    private void fire(int table, int event, int row, int[] oldRow, int[] newRow, int depth) {
        counts[3]++;
        Integer procedure = triggers.get(List.of(table, event));
        if (procedure != null) {
            if (depth == 8) {
                throw new Ended(4, 0);
            }
            counts[2]++;
            run(procedure, row, oldRow.clone(), newRow.clone(), depth + 1);
        }
    }

    private int run(int procedure, int argument, int[] oldRow, int[] newRow, int depth) {
        if (depth > 8) {
            throw new Ended(4, 0);
        }
        counts[1] = Math.max(counts[1], depth);
        int[] words = procedures.get(procedure);
        int[] locals = {argument, 0, 0, 0, 0, 0, 0, 0};
        int[] stack = new int[0];
        int place = 0;
        while (true) {
            if (fuel == 0) {
                throw new Ended(3, 0);
            }
            fuel--;
            counts[0]++;
            int word = words[place];
            int x = OPERANDS[word].length() > 0 ? words[place + 1] : 0;
            int y = OPERANDS[word].length() > 1 ? words[place + 2] : 0;
            int left = stack.length - TAKES[word];
            int[] taken = Arrays.copyOfRange(stack, left, stack.length);
            stack = Arrays.copyOf(stack, left);
            place += 1 + OPERANDS[word].length();
            int[] given = {};
            if (word == 26) {
                return taken[0];
            } else if (word == 25) {
                throw new Ended(1, taken[0]);
            } else if (word == 24) {
                given = new int[] {run(x, taken[0], new int[3], new int[3], depth + 1)};
            } else if (word == 22 || word == 23) {
                given = new int[] {word == 22 ? oldRow[x] : newRow[x]};
            } else if (word >= 16) {
                given = new int[] {ofTable(word, x, y, taken, depth)};
            } else if (word == 14 || word == 15 && taken[0] == 0) {
                place = x;
            } else if (word == 13) {
                locals[x] = taken[0];
            } else if (word == 12) {
                given = new int[] {locals[x]};
            } else if (word != 15) {
                given = ofNumbers(word, x, taken);
            }
            int[] higher = Arrays.copyOf(stack, left + given.length);
            System.arraycopy(given, 0, higher, left, given.length);
            stack = higher;
        }
    }

    private static int[] ofNumbers(int word, int x, int[] taken) {
        int a = taken.length > 0 ? taken[0] : 0;
        int b = taken.length > 1 ? taken[1] : 0;
        if ((word == 7 || word == 8) && b == 0) {
            throw new Ended(2, 0);
        }
        return switch (word) {
            case 0 -> new int[] {x};
            case 1 -> new int[] {};
            case 2 -> new int[] {a, a};
            case 3 -> new int[] {b, a};
            case 4 -> new int[] {a + b};
            case 5 -> new int[] {a - b};
            case 6 -> new int[] {a * b};
            case 7 -> new int[] {(int) ((long) a / b)};
            case 8 -> new int[] {(int) ((long) a % b)};
            case 9 -> new int[] {a < b ? 1 : 0};
            case 10 -> new int[] {a == b ? 1 : 0};
            case 11 -> new int[] {a == 0 ? 1 : 0};
            default -> throw new AssertionError("word " + word);
        };
    }

    private int ofTable(int word, int table, int column, int[] taken, int depth) {
        List<int[]> rows = tables.get(table);
        int r = taken.length > 0 ? taken[0] : 0;
        boolean there = r >= 0 && r < rows.size();
        switch (word) {
            case 16:
                return rows.size();
            case 17:
                return there ? rows.get(r)[column] : 0;
            case 18:
                if (rows.size() == 16) {
                    throw new Ended(5, 0);
                }
                int number = rows.size();
                rows.add(taken.clone());
                fire(table, 0, number, new int[3], taken, depth);
                return number;
            case 19:
                if (!there) {
                    return 0;
                }
                fire(table, 1, r, rows.remove(r), new int[3], depth);
                return 1;
            case 20:
                if (!there) {
                    return 0;
                }
                int[] before = rows.get(r).clone();
                rows.get(r)[column] = taken[1];
                fire(table, 2, r, before, rows.get(r), depth);
                return 1;
            default:
                for (int row = 0; row < rows.size(); row++) {
                    if (row >= r && rows.get(row)[column] == taken[1]) {
                        return row;
                    }
                }
                return -1;
        }
    }
}
