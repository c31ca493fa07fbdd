/** Names for the operations that test programs are made of; the document tells them by x, y and z. */
final class Op {
    static final int NOTHING = 0;
    static final int SET_BC = 1;
    static final int SET_DE = 17;
    static final int SET_HL = 33;
    static final int SET_SP = 49;
    static final int A_TO_BC = 2;
    static final int A_TO_DE = 18;
    static final int A_FROM_BC = 10;
    static final int A_FROM_DE = 26;
    static final int HL_TO = 34;
    static final int HL_FROM = 42;
    static final int A_TO = 50;
    static final int A_FROM = 58;
    static final int MORE_B = 4;
    static final int MORE_M = 52;
    static final int LESS_M = 53;
    static final int SET_B = 6;
    static final int SET_M = 54;
    static final int SET_A = 62;
    static final int ADJUST = 39;
    static final int K_ON = 55;
    static final int K_TURN = 63;
    static final int B_BECOMES_A = 71;
    static final int A_BECOMES_M = 126;
    static final int M_BECOMES_A = 119;
    static final int HALT = 118;
    static final int PUSH_BC = 197;
    static final int PUSH_A = 245;
    static final int POP_BC = 193;
    static final int POP_A = 241;
    static final int GO = 195;
    static final int CALL = 205;
    static final int BACK = 201;
    static final int GO_HL = 233;
    static final int OUT = 211;
    static final int IN = 219;
    static final int EXCHANGE_TOP = 227;
    static final int INTERRUPTS_OFF = 243;
    static final int INTERRUPTS_ON = 251;

    private Op() {
    }

    static int low(int word) {
        return word & 255;
    }

    static int high(int word) {
        return (word >> 8) & 255;
    }

    /** An operation with the word behind it. */
    static int[] with(int operation, int word) {
        return new int[] {operation, low(word), high(word)};
    }

    static int[] one(int... bytes) {
        return bytes;
    }

    /** These parts as one program. */
    static int[] program(int[]... parts) {
        int length = 0;
        for (int[] part : parts) {
            length += part.length;
        }
        int[] all = new int[length];
        int at = 0;
        for (int[] part : parts) {
            System.arraycopy(part, 0, all, at, part.length);
            at += part.length;
        }
        return all;
    }

    /** The operation so many times. */
    static int[] times(int n, int operation) {
        int[] all = new int[n];
        java.util.Arrays.fill(all, operation);
        return all;
    }
}
