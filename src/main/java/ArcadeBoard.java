/**
 * An arcade board: a processor of eight bits with its memory, ports, interrupts, watchdog, sounds and saved
 * states. The document's terms (cell, pair, call, watch, ...) name the same things here.
 */
public final class ArcadeBoard {
    public static final int NONE = -1;

    private static final int BYTE = 0xFF;
    private static final int WORD = 0xFFFF;

    private static final int MEMORY_SIZE = 1024;
    private static final int PROGRAM_SIZE = 512;
    private static final int SCREEN = 768;
    private static final int SCREEN_WIDTH = 64;
    private static final int SCREEN_HEIGHT = 32;

    private static final int H = 4;
    private static final int L = 5;
    private static final int M = 6;
    private static final int A = 7;
    private static final int HL = 2;
    private static final int SP = 3;

    private static final int SIGN = 128;
    private static final int ZERO = 64;
    private static final int HALF = 16;
    private static final int PARITY = 4;
    private static final int FIXED = 2;
    private static final int CARRY = 1;

    private static final int MOST_BYTES = 4;
    private static final int MOST_STEPS = 60;
    private static final int COIN_FRAMES = 3;
    private static final int SLOTS = 2;

    private final State state;
    private final Memory memory;
    private final Registers registers;
    private final Sounds sounds;
    private final Ports ports;
    private final Clock clock;
    private final Processor processor;
    private final State[] slots;
    private final boolean[] filled;
    private boolean on;

    public ArcadeBoard() {
        state = new State();
        memory = new Memory(state);
        registers = new Registers(state, memory);
        sounds = new Sounds();
        ports = new Ports(state, sounds);
        clock = new Clock(state);
        processor = new Processor(state, memory, registers, ports, clock);
        slots = new State[] {new State(), new State()};
        filled = new boolean[SLOTS];
        on = false;
    }

    public boolean load(int cell, int b, int n) {
        if (on || n < 1 || n > MOST_BYTES || cell < 0 || cell > PROGRAM_SIZE - n) {
            return false;
        }
        for (int i = 0; i < n; i++) {
            memory.burn(cell + i, b >> (8 * i));
        }
        return true;
    }

    public int check() {
        return memory.programSum();
    }

    public boolean power(int check) throws IllegalArgumentException, IllegalStateException {
        if (memory.programSum() != check) {
            throw new IllegalArgumentException("the program has another check");
        }
        if (on) {
            throw new IllegalStateException("the board is on");
        }
        on = true;
        clock.reset();
        return true;
    }

    public boolean off() {
        boolean was = on;
        on = false;
        return was;
    }

    public int run(int n) throws IllegalArgumentException, IllegalStateException {
        if (n < 0 || n > MOST_STEPS) {
            throw new IllegalArgumentException("the steps are not 0 to 60");
        }
        if (!on) {
            throw new IllegalStateException("the board is off");
        }
        int states = 0;
        for (int i = 0; i < n; i++) {
            states += processor.step();
        }
        return states;
    }

    public boolean switches(int port, int value) {
        return ports.setSwitches(port, value);
    }

    public boolean coin() {
        if (state.coinCount > 0) {
            return false;
        }
        state.coinCount = COIN_FRAMES;
        return true;
    }

    public int look(int what) {
        if (what >= 0 && what <= A) {
            return registers.value(what);
        }
        switch (what) {
            case 8: return state.flags;
            case 9: return state.sp;
            case 10: return state.pc;
            case 11: return state.interrupts ? 1 : 0;
            case 12: return state.halted ? 1 : 0;
            case 13: return state.call;
            case 14: return state.shift;
            case 15: return state.offset;
            case 16: return state.watch;
            case 17: return state.time;
            case 18: return state.frames;
            case 19: return state.coinCount;
            default: return NONE;
        }
    }

    public int peek(int cell) {
        if (cell < 0 || cell >= MEMORY_SIZE) {
            return NONE;
        }
        return memory.at(cell);
    }

    public boolean dot(int x, int y) {
        if (x < 0 || x >= SCREEN_WIDTH || y < 0 || y >= SCREEN_HEIGHT) {
            return false;
        }
        int eight = memory.at(SCREEN + 8 * y + x / 8);
        return ((eight >> (x % 8)) & 1) == 1;
    }

    public int sound(int k) {
        return k == -1 ? sounds.count() : sounds.latestBut(k);
    }

    public boolean save(int slot) {
        if (slot < 0 || slot >= SLOTS) {
            return false;
        }
        slots[slot].become(state);
        filled[slot] = true;
        return true;
    }

    public boolean restore(int slot) throws IllegalArgumentException, IllegalStateException {
        if (slot < 0 || slot >= SLOTS) {
            throw new IllegalArgumentException("the slot is not 0 or 1");
        }
        if (!filled[slot]) {
            throw new IllegalStateException("nothing was saved there");
        }
        state.become(slots[slot]);
        return true;
    }

    /** All that a slot keeps, and no more: so that to save and to restore are one copy. */
    private static final class State {
        final int[] ram = new int[MEMORY_SIZE - PROGRAM_SIZE];
        final int[] registers = new int[8];
        int flags = FIXED;
        int sp = 0;
        int pc = 0;
        boolean interrupts = false;
        boolean switchedOn = false;
        boolean halted = false;
        int call = 0;
        int shift = 0;
        int offset = 0;
        int watch = 0;
        int time = 0;
        int frames = 0;
        int coinCount = 0;
        int lastTo3 = 0;
        int lastTo5 = 0;

        void become(State other) {
            System.arraycopy(other.ram, 0, ram, 0, MEMORY_SIZE - PROGRAM_SIZE);
            System.arraycopy(other.registers, 0, registers, 0, 8);
            flags = other.flags;
            sp = other.sp;
            pc = other.pc;
            interrupts = other.interrupts;
            switchedOn = other.switchedOn;
            halted = other.halted;
            call = other.call;
            shift = other.shift;
            offset = other.offset;
            watch = other.watch;
            time = other.time;
            frames = other.frames;
            coinCount = other.coinCount;
            lastTo3 = other.lastTo3;
            lastTo5 = other.lastTo5;
        }
    }

    /** The program, which slots do not keep, before the rest of the memory, which they do. */
    private static final class Memory {
        private final int[] program = new int[PROGRAM_SIZE];
        private final State state;

        Memory(State state) {
            this.state = state;
        }

        int at(int address) {
            int cell = address & (MEMORY_SIZE - 1);
            return cell < PROGRAM_SIZE ? program[cell] : state.ram[cell - PROGRAM_SIZE];
        }

        void put(int address, int value) {
            int cell = address & (MEMORY_SIZE - 1);
            if (cell >= PROGRAM_SIZE) {
                state.ram[cell - PROGRAM_SIZE] = value & BYTE;
            }
        }

        int wordAt(int address) {
            return at(address) | (at(address + 1) << 8);
        }

        void putWord(int address, int word) {
            put(address, word);
            put(address + 1, word >> 8);
        }

        void push(int word) {
            put(state.sp - 1, word >> 8);
            put(state.sp - 2, word);
            state.sp = (state.sp - 2) & WORD;
        }

        int pop() {
            int word = at(state.sp) | (at(state.sp + 1) << 8);
            state.sp = (state.sp + 2) & WORD;
            return word;
        }

        void burn(int cell, int value) {
            if (cell >= 0 && cell < PROGRAM_SIZE) {
                program[cell] = value & BYTE;
            }
        }

        int programSum() {
            int c = WORD;
            for (int cell = 0; cell < PROGRAM_SIZE; cell++) {
                c = sumOfByte(c ^ (program[cell] << 8));
            }
            return c;
        }

        private static int sumOfByte(int start) {
            int c = start;
            for (int bit = 0; bit < 8; bit++) {
                int doubled = (c << 1) & WORD;
                c = (c & 0x8000) == 0 ? doubled : doubled ^ 4129;
            }
            return c;
        }
    }

    /** The registers by their numbers, M among them, and the pairs. */
    private static final class Registers {
        private final State state;
        private final Memory memory;

        Registers(State state, Memory memory) {
            this.state = state;
            this.memory = memory;
        }

        int value(int register) {
            return register == M ? memory.at(pair(HL)) : state.registers[register & 7];
        }

        void set(int register, int value) {
            if (register == M) {
                memory.put(pair(HL), value);
            } else {
                state.registers[register & 7] = value & BYTE;
            }
        }

        int pair(int pair) {
            if (pair == SP) {
                return state.sp;
            }
            int upper = 2 * (pair & 3);
            return (state.registers[upper] << 8) | state.registers[upper + 1];
        }

        void setPair(int pair, int word) {
            if (pair == SP) {
                state.sp = word & WORD;
            } else {
                int upper = 2 * (pair & 3);
                state.registers[upper] = (word >> 8) & BYTE;
                state.registers[upper + 1] = word & BYTE;
            }
        }
    }

    /** What is reckoned in A, HL or a single byte, with the flags that come of it. */
    private static final class Arithmetic {
        private final State state;

        Arithmetic(State state) {
            this.state = state;
        }

        int carry() {
            return state.flags & CARRY;
        }

        void setCarry(int carry) {
            state.flags = (state.flags & ~CARRY) | (carry & CARRY);
        }

        void operate(int kind, int v) {
            int a = state.registers[A];
            switch (kind) {
                case 0: state.registers[A] = sum(a, v, 0); break;
                case 1: state.registers[A] = sum(a, v, carry()); break;
                case 2: state.registers[A] = difference(a, v, 0); break;
                case 3: state.registers[A] = difference(a, v, carry()); break;
                case 4: state.registers[A] = logical(a & v, ((a | v) & 8) * 2); break;
                case 5: state.registers[A] = logical(a ^ v, 0); break;
                case 6: state.registers[A] = logical(a | v, 0); break;
                default: difference(a, v, 0); break;
            }
        }

        int oneMore(int v) {
            int more = (v + 1) & BYTE;
            state.flags = resultFlags(more) | (((v & 15) + 1) & HALF) | carry();
            return more;
        }

        int oneLess(int v) {
            int less = (v - 1) & BYTE;
            state.flags = resultFlags(less) | ((v & 15) == 0 ? 0 : HALF) | carry();
            return less;
        }

        void growHL(int word) {
            int sum = ((state.registers[H] << 8) | state.registers[L]) + word;
            state.registers[H] = (sum >> 8) & BYTE;
            state.registers[L] = sum & BYTE;
            setCarry(sum >> 16);
        }

        void adjust() {
            int a = state.registers[A];
            int carry = carry();
            int v = 0;
            if ((a & 15) > 9 || (state.flags & HALF) != 0) {
                v = 6;
            }
            if (a > 153 || carry == 1) {
                v += 96;
                carry = 1;
            }
            int sum = (a + v) & BYTE;
            state.registers[A] = sum;
            state.flags = resultFlags(sum) | (((a & 15) + (v & 15)) & HALF) | carry;
        }

        /** The operations of x 0, z 7 but for adjust: none of them is a result. */
        void turn(int kind) {
            int a = state.registers[A];
            switch (kind) {
                case 0: turnTo((a << 1) | (a >> 7), a >> 7); break;
                case 1: turnTo((a >> 1) | (a << 7), a); break;
                case 2: turnTo((a << 1) | carry(), a >> 7); break;
                case 3: turnTo((a >> 1) | (carry() << 7), a); break;
                case 5: state.registers[A] = a ^ BYTE; break;
                case 6: setCarry(1); break;
                case 7: setCarry(carry() ^ 1); break;
                default: break;
            }
        }

        private void turnTo(int a, int carry) {
            state.registers[A] = a & BYTE;
            setCarry(carry);
        }

        private int sum(int a, int v, int carry) {
            int sum = a + v + carry;
            int half = ((a & 15) + (v & 15) + carry) & HALF;
            state.flags = resultFlags(sum & BYTE) | half | (sum >> 8);
            return sum & BYTE;
        }

        private int difference(int a, int v, int carry) {
            int difference = a - v - carry;
            int half = ((a & 15) + (~v & 15) + 1 - carry) & HALF;
            state.flags = resultFlags(difference & BYTE) | half | (difference < 0 ? CARRY : 0);
            return difference & BYTE;
        }

        private int logical(int result, int half) {
            state.flags = resultFlags(result) | half;
            return result;
        }

        private static int resultFlags(int result) {
            int zero = result == 0 ? ZERO : 0;
            int parity = (Integer.bitCount(result) & 1) == 0 ? PARITY : 0;
            return (result & SIGN) | zero | parity | FIXED;
        }
    }

    /** The latest sounds; older ones can no more be asked for, so they are written over. */
    private static final class Sounds {
        private final int[] latest = new int[8];
        private int count = 0;

        int count() {
            return count;
        }

        int latestBut(int k) {
            if (k < 0 || k > 7 || k >= count) {
                return NONE;
            }
            return latest[(count - 1 - k) & 7];
        }

        void trigger(int port, int bits) {
            for (int bit = 0; bit < 8; bit++) {
                if (((bits >> bit) & 1) == 1) {
                    latest[count & 7] = 8 * port + bit;
                    count++;
                }
            }
        }
    }

    private static final class Ports {
        private final State state;
        private final Sounds sounds;
        private int dips = 0;
        private int inputs = 0;

        Ports(State state, Sounds sounds) {
            this.state = state;
            this.sounds = sounds;
        }

        boolean setSwitches(int port, int value) {
            if (port == 0) {
                dips = value & BYTE;
                return true;
            }
            if (port == 1) {
                // The lowest bit is the coin's alone.
                inputs = value & (BYTE - 1);
                return true;
            }
            return false;
        }

        int in(int port) {
            switch (port) {
                case 0: return dips;
                case 1: return state.coinCount > 0 ? inputs + 1 : inputs;
                case 3: return ((state.shift << state.offset) >> 8) & BYTE;
                default: return 0;
            }
        }

        void out(int port, int value) {
            switch (port) {
                case 2:
                    state.offset = value & 7;
                    break;
                case 3:
                    sounds.trigger(3, value & ~state.lastTo3);
                    state.lastTo3 = value;
                    break;
                case 4:
                    state.shift = (state.shift >> 8) | (value << 8);
                    break;
                case 5:
                    sounds.trigger(5, value & ~state.lastTo5);
                    state.lastTo5 = value;
                    break;
                case 6:
                    state.watch = 0;
                    break;
                default:
                    break;
            }
        }
    }

    /** The screen's lines and frames as time goes by, and the watchdog that counts the frames. */
    private static final class Clock {
        private static final int MIDDLE_LINE = 1024;
        private static final int LAST_LINE = 2048;
        private static final int FRAME = 2560;
        private static final int WATCH_LIMIT = 4;

        private final State state;

        Clock(State state) {
            this.state = state;
        }

        void pass(int states) {
            int before = state.time;
            state.time = before + states;
            if (before < MIDDLE_LINE && state.time >= MIDDLE_LINE) {
                state.call = 1;
            }
            if (before < LAST_LINE && state.time >= LAST_LINE) {
                state.call = 2;
            }
            if (state.time >= FRAME) {
                endFrame();
            }
        }

        void reset() {
            state.pc = 0;
            state.shift = 0;
            state.offset = 0;
            state.watch = 0;
            state.interrupts = false;
            state.halted = false;
            state.call = 0;
        }

        private void endFrame() {
            state.time -= FRAME;
            state.frames++;
            if (state.coinCount > 0) {
                state.coinCount--;
            }
            state.watch++;
            if (state.watch >= WATCH_LIMIT) {
                reset();
            }
        }
    }

    /** Takes operations apart, makes them, and tells how many states they take. */
    private static final class Processor {
        private final State state;
        private final Memory memory;
        private final Registers registers;
        private final Arithmetic arithmetic;
        private final Ports ports;
        private final Clock clock;

        Processor(State state, Memory memory, Registers registers, Ports ports, Clock clock) {
            this.state = state;
            this.memory = memory;
            this.registers = registers;
            this.arithmetic = new Arithmetic(state);
            this.ports = ports;
            this.clock = clock;
        }

        int step() {
            boolean before = state.interrupts;
            int states;
            if (state.interrupts && !state.switchedOn && state.call != 0) {
                states = takeCall();
            } else if (state.halted) {
                states = 4;
            } else {
                states = operate(nextByte());
            }
            state.switchedOn = state.interrupts && !before;
            clock.pass(states);
            return states;
        }

        private int takeCall() {
            int number = state.call;
            state.call = 0;
            state.interrupts = false;
            state.halted = false;
            goWithReturn(8 * number);
            return 11;
        }

        private int operate(int operation) {
            int y = (operation >> 3) & 7;
            int z = operation & 7;
            switch (operation >> 6) {
                case 0:
                    return operateOnData(y, z);
                case 1:
                    return move(y, z);
                case 2:
                    arithmetic.operate(y, registers.value(z));
                    return z == M ? 7 : 4;
                default:
                    if (z == 6) {
                        arithmetic.operate(y, nextByte());
                        return 7;
                    }
                    return operateOnFlow(y, z);
            }
        }

        private int move(int y, int z) {
            if (y == M && z == M) {
                state.halted = true;
                return 7;
            }
            registers.set(y, registers.value(z));
            return y == M || z == M ? 7 : 5;
        }

        /** The operations of x 0. */
        private int operateOnData(int y, int z) {
            switch (z) {
                case 0:
                    return 4;
                case 1:
                    return setOrAddPair(y);
                case 2:
                    return moveByAddress(y);
                case 3:
                    registers.setPair(y / 2, registers.pair(y / 2) + (y % 2 == 0 ? 1 : -1));
                    return 5;
                case 4:
                    registers.set(y, arithmetic.oneMore(registers.value(y)));
                    return y == M ? 10 : 5;
                case 5:
                    registers.set(y, arithmetic.oneLess(registers.value(y)));
                    return y == M ? 10 : 5;
                case 6:
                    registers.set(y, nextByte());
                    return y == M ? 10 : 7;
                default:
                    if (y == 4) {
                        arithmetic.adjust();
                    } else {
                        arithmetic.turn(y);
                    }
                    return 4;
            }
        }

        private int setOrAddPair(int y) {
            if (y % 2 == 0) {
                registers.setPair(y / 2, nextWord());
            } else {
                arithmetic.growHL(registers.pair(y / 2));
            }
            return 10;
        }

        private int moveByAddress(int y) {
            switch (y) {
                case 0:
                case 2:
                    memory.put(registers.pair(y / 2), state.registers[A]);
                    return 7;
                case 1:
                case 3:
                    state.registers[A] = memory.at(registers.pair(y / 2));
                    return 7;
                case 4:
                    memory.putWord(nextWord(), registers.pair(HL));
                    return 16;
                case 5:
                    registers.setPair(HL, memory.wordAt(nextWord()));
                    return 16;
                case 6:
                    memory.put(nextWord(), state.registers[A]);
                    return 13;
                default:
                    state.registers[A] = memory.at(nextWord());
                    return 13;
            }
        }

        /** The operations of x 3 but for z 6. */
        private int operateOnFlow(int y, int z) {
            switch (z) {
                case 0:
                    return returnIf(holds(y));
                case 1:
                    return popOrGo(y);
                case 2:
                    return goIf(holds(y));
                case 3:
                    return goOrExchange(y);
                case 4:
                    return goWithReturnIf(holds(y));
                case 5:
                    return y % 2 == 0 ? pushPair(y / 2) : goWithReturnIf(true);
                default:
                    goWithReturn(8 * y);
                    return 11;
            }
        }

        private int returnIf(boolean condition) {
            if (!condition) {
                return 5;
            }
            state.pc = memory.pop();
            return 11;
        }

        private int popOrGo(int y) {
            switch (y) {
                case 1:
                case 3:
                    state.pc = memory.pop();
                    return 10;
                case 5:
                    state.pc = registers.pair(HL);
                    return 5;
                case 7:
                    state.sp = registers.pair(HL);
                    return 5;
                case 6:
                    popAAndFlags();
                    return 10;
                default:
                    registers.setPair(y / 2, memory.pop());
                    return 10;
            }
        }

        private void popAAndFlags() {
            int word = memory.pop();
            state.registers[A] = word >> 8;
            state.flags = (word & (SIGN | ZERO | HALF | PARITY | CARRY)) | FIXED;
        }

        private int pushPair(int pair) {
            memory.push(pair == SP ? (state.registers[A] << 8) | state.flags : registers.pair(pair));
            return 11;
        }

        private int goIf(boolean condition) {
            int target = nextWord();
            if (condition) {
                state.pc = target;
            }
            return 10;
        }

        private int goWithReturnIf(boolean condition) {
            int target = nextWord();
            if (!condition) {
                return 11;
            }
            memory.push(state.pc);
            state.pc = target;
            return 17;
        }

        private void goWithReturn(int target) {
            memory.push(state.pc);
            state.pc = target;
        }

        private int goOrExchange(int y) {
            switch (y) {
                case 2:
                    ports.out(nextByte(), state.registers[A]);
                    return 10;
                case 3:
                    state.registers[A] = ports.in(nextByte());
                    return 10;
                case 4:
                    int top = memory.wordAt(state.sp);
                    memory.putWord(state.sp, registers.pair(HL));
                    registers.setPair(HL, top);
                    return 18;
                case 5:
                    int de = registers.pair(1);
                    registers.setPair(1, registers.pair(HL));
                    registers.setPair(HL, de);
                    return 5;
                case 6:
                    state.interrupts = false;
                    return 4;
                case 7:
                    state.interrupts = true;
                    return 4;
                default:
                    state.pc = nextWord();
                    return 10;
            }
        }

        private boolean holds(int condition) {
            boolean wanted = condition % 2 == 1;
            switch (condition / 2) {
                case 0: return ((state.flags & ZERO) != 0) == wanted;
                case 1: return ((state.flags & CARRY) != 0) == wanted;
                case 2: return ((state.flags & PARITY) != 0) == wanted;
                default: return ((state.flags & SIGN) != 0) == wanted;
            }
        }

        private int nextByte() {
            int b = memory.at(state.pc);
            state.pc = (state.pc + 1) & WORD;
            return b;
        }

        private int nextWord() {
            int word = memory.at(state.pc) | (memory.at(state.pc + 1) << 8);
            state.pc = (state.pc + 2) & WORD;
            return word;
        }
    }
}
