/** The words of the instructions, by the names that the tests use. */
final class Words {
    static final int PUSH = 0;
    static final int DROP = 1;
    static final int COPY = 2;
    static final int SWAP = 3;
    static final int ADD = 4;
    static final int SUBTRACT = 5;
    static final int MULTIPLY = 6;
    static final int DIVIDE = 7;
    static final int REMAINDER = 8;
    static final int LESS = 9;
    static final int SAME = 10;
    static final int NOT = 11;
    static final int LOAD = 12;
    static final int STORE = 13;
    static final int JUMP = 14;
    static final int JUMP_IF_ZERO = 15;
    static final int SIZE = 16;
    static final int READ = 17;
    static final int INSERT = 18;
    static final int DELETE = 19;
    static final int UPDATE = 20;
    static final int FIND = 21;
    static final int OLD = 22;
    static final int NEW = 23;
    static final int CALL = 24;
    static final int RAISE = 25;
    static final int RETURN = 26;

    private Words() {
    }
}
