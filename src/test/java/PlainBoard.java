/**
 * The board once more, written from the document in another way (operation by operation, flags one by one, all
 * memory in one row), to be compared with ArcadeBoard. It looks after no wrong arguments.
 */
final class PlainBoard {
    private static final int[] STATES = {
        4, 10, 7, 5, 5, 5, 7, 4, 4, 10, 7, 5, 5, 5, 7, 4,
        4, 10, 7, 5, 5, 5, 7, 4, 4, 10, 7, 5, 5, 5, 7, 4,
        4, 10, 16, 5, 5, 5, 7, 4, 4, 10, 16, 5, 5, 5, 7, 4,
        4, 10, 13, 5, 10, 10, 10, 4, 4, 10, 13, 5, 5, 5, 7, 4,
        5, 5, 5, 5, 5, 5, 7, 5, 5, 5, 5, 5, 5, 5, 7, 5,
        5, 5, 5, 5, 5, 5, 7, 5, 5, 5, 5, 5, 5, 5, 7, 5,
        5, 5, 5, 5, 5, 5, 7, 5, 5, 5, 5, 5, 5, 5, 7, 5,
        7, 7, 7, 7, 7, 7, 7, 7, 5, 5, 5, 5, 5, 5, 7, 5,
        4, 4, 4, 4, 4, 4, 7, 4, 4, 4, 4, 4, 4, 4, 7, 4,
        4, 4, 4, 4, 4, 4, 7, 4, 4, 4, 4, 4, 4, 4, 7, 4,
        4, 4, 4, 4, 4, 4, 7, 4, 4, 4, 4, 4, 4, 4, 7, 4,
        4, 4, 4, 4, 4, 4, 7, 4, 4, 4, 4, 4, 4, 4, 7, 4,
        5, 10, 10, 10, 11, 11, 7, 11, 5, 10, 10, 10, 11, 17, 7, 11,
        5, 10, 10, 10, 11, 11, 7, 11, 5, 10, 10, 10, 11, 17, 7, 11,
        5, 10, 10, 18, 11, 11, 7, 11, 5, 5, 10, 5, 11, 17, 7, 11,
        5, 10, 10, 4, 11, 11, 7, 11, 5, 5, 10, 4, 11, 17, 7, 11,
    };

    final int[] cells = new int[1024];
    final java.util.ArrayList<Integer> sounds = new java.util.ArrayList<>();
    int a, b, c, d, e, h, l, sp, pc;
    boolean s, z, half, p, k;
    boolean on, interrupts, halted;
    boolean interruptsBefore = true;
    int call, shift, offset, watch, time, frames, coins, dips, inputs, last3, last5;
    private final int[][] slots = new int[2][];

    int flags() {
        return (s ? 128 : 0) + (z ? 64 : 0) + (half ? 16 : 0) + (p ? 4 : 0) + 2 + (k ? 1 : 0);
    }

    private void flags(int f) {
        s = (f & 128) > 0;
        z = (f & 64) > 0;
        half = (f & 16) > 0;
        p = (f & 4) > 0;
        k = (f & 1) > 0;
    }

    int read(int address) {
        return cells[Math.floorMod(address, 1024)];
    }

    private void write(int address, int v) {
        if (Math.floorMod(address, 1024) >= 512) {
            cells[Math.floorMod(address, 1024)] = v;
        }
    }

    int look(int what) {
        int[] all = {b, c, d, e, h, l, read(h * 256 + l), a, flags(), sp, pc, interrupts ? 1 : 0, halted ? 1 : 0, call,
            shift, offset, watch, time, frames, coins};
        return all[what];
    }

    int sound(int n) {
        if (n == -1) {
            return sounds.size();
        }
        return n < 8 && n < sounds.size() ? sounds.get(sounds.size() - 1 - n) : -1;
    }

    void reset() {
        pc = shift = offset = watch = call = 0;
        interrupts = halted = false;
    }

    boolean coin() {
        if (coins > 0) {
            return false;
        }
        coins = 3;
        return true;
    }

    void save(int slot) {
        int[] kept = java.util.Arrays.copyOf(cells, 1024 + 24);
        for (int i = 0; i < 20; i++) {
            kept[1024 + i] = look(i);
        }
        kept[1044] = last3;
        kept[1045] = last5;
        kept[1046] = interruptsBefore ? 1 : 0;
        slots[slot] = kept;
    }

    boolean restore(int slot) {
        int[] kept = slots[slot];
        if (kept == null) {
            return false;
        }
        System.arraycopy(kept, 512, cells, 512, 512);
        b = kept[1024];
        c = kept[1025];
        d = kept[1026];
        e = kept[1027];
        h = kept[1028];
        l = kept[1029];
        a = kept[1031];
        flags(kept[1032]);
        sp = kept[1033];
        pc = kept[1034];
        interrupts = kept[1035] == 1;
        halted = kept[1036] == 1;
        call = kept[1037];
        shift = kept[1038];
        offset = kept[1039];
        watch = kept[1040];
        time = kept[1041];
        frames = kept[1042];
        coins = kept[1043];
        last3 = kept[1044];
        last5 = kept[1045];
        interruptsBefore = kept[1046] == 1;
        return true;
    }

    int step() {
        int states;
        if (interrupts && interruptsBefore && call > 0) {
            interrupts = false;
            halted = false;
            interruptsBefore = false;
            push(pc);
            pc = 8 * call;
            call = 0;
            states = 11;
        } else if (halted) {
            interruptsBefore = true;
            states = 4;
        } else {
            interruptsBefore = interrupts;
            states = operation(next());
        }
        for (int i = 0; i < states; i++) {
            tick();
        }
        // A frame's end is looked after when all the states are over: what is above 2560 stays.
        if (time >= 2560) {
            time -= 2560;
            frames++;
            coins = Math.max(0, coins - 1);
            if (++watch == 4) {
                reset();
            }
        }
        return states;
    }

    private void tick() {
        time++;
        if (time == 1024 || time == 2048) {
            call = time / 1024;
        }
    }

    private int next() {
        int v = read(pc);
        pc = (pc + 1) % 65536;
        return v;
    }

    private int word() {
        int low = next();
        return low + 256 * next();
    }

    private void push(int w) {
        sp = (sp + 65535) % 65536;
        write(sp, w / 256);
        sp = (sp + 65535) % 65536;
        write(sp, w % 256);
    }

    private int pop() {
        int w = read(sp) + 256 * read(sp + 1);
        sp = (sp + 2) % 65536;
        return w;
    }

    private int get(int r) {
        return new int[] {b, c, d, e, h, l, read(h * 256 + l), a}[r];
    }

    private void set(int r, int v) {
        switch (r) {
            case 0 -> b = v;
            case 1 -> c = v;
            case 2 -> d = v;
            case 3 -> e = v;
            case 4 -> h = v;
            case 5 -> l = v;
            case 6 -> write(h * 256 + l, v);
            default -> a = v;
        }
    }

    private void bc(int w) {
        b = w / 256 % 256;
        c = w % 256;
    }

    private void de(int w) {
        d = w / 256 % 256;
        e = w % 256;
    }

    private void hl(int w) {
        h = w / 256 % 256;
        l = w % 256;
    }

    private int bc() {
        return b * 256 + c;
    }

    private int de() {
        return d * 256 + e;
    }

    private int hl() {
        return h * 256 + l;
    }

    private int result(int v) {
        int r = v & 255;
        s = r > 127;
        z = r == 0;
        p = true;
        for (int i = 0; i < 8; i++) {
            if ((r >> i) % 2 == 1) {
                p = !p;
            }
        }
        return r;
    }

    private void alu(int kind, int v) {
        int carry = k ? 1 : 0;
        switch (kind) {
            case 0, 1 -> {
                int sum = a + v + (kind == 1 ? carry : 0);
                half = ((a ^ v ^ sum) & 16) != 0;
                k = sum > 255;
                a = result(sum);
            }
            case 2, 3, 7 -> {
                int less = a - v - (kind == 3 ? carry : 0);
                half = ((a ^ v ^ less) & 16) == 0;
                k = less < 0;
                int r = result(less);
                a = kind == 7 ? a : r;
            }
            case 4 -> {
                half = a % 16 > 7 || v % 16 > 7;
                k = false;
                a = result(a & v);
            }
            default -> {
                half = false;
                k = false;
                a = result(kind == 5 ? a ^ v : a | v);
            }
        }
    }

    private boolean condition(int y) {
        return new boolean[] {!z, z, !k, k, !p, p, !s, s}[y];
    }

    private int operation(int op) {
        if (op == 0x76) {
            halted = true;
        } else if (op >= 0x40 && op < 0x80) {
            set(op / 8 % 8, get(op % 8));
        } else if (op >= 0x80 && op < 0xC0) {
            alu(op / 8 % 8, get(op % 8));
        } else if (op < 0x40) {
            lower(op);
        } else {
            return upper(op);
        }
        return STATES[op];
    }

    private void lower(int op) {
        int y = op / 8;
        switch (op % 8) {
            case 4 -> {
                half = get(y) % 16 == 15;
                set(y, result(get(y) + 1));
                return;
            }
            case 5 -> {
                half = get(y) % 16 != 0;
                set(y, result(get(y) + 255));
                return;
            }
            case 6 -> {
                set(y, next());
                return;
            }
            case 0 -> {
                return;
            }
            default -> { }
        }
        switch (op) {
            case 0x01 -> bc(word());
            case 0x11 -> de(word());
            case 0x21 -> hl(word());
            case 0x31 -> sp = word();
            case 0x09 -> add(bc());
            case 0x19 -> add(de());
            case 0x29 -> add(hl());
            case 0x39 -> add(sp);
            case 0x02 -> write(bc(), a);
            case 0x12 -> write(de(), a);
            case 0x0A -> a = read(bc());
            case 0x1A -> a = read(de());
            case 0x22 -> {
                int w = word();
                write(w, l);
                write(w + 1, h);
            }
            case 0x2A -> {
                int w = word();
                l = read(w);
                h = read(w + 1);
            }
            case 0x32 -> write(word(), a);
            case 0x3A -> a = read(word());
            case 0x03 -> bc(bc() + 1);
            case 0x13 -> de(de() + 1);
            case 0x23 -> hl(hl() + 1);
            case 0x33 -> sp = (sp + 1) % 65536;
            case 0x0B -> bc(bc() + 65535);
            case 0x1B -> de(de() + 65535);
            case 0x2B -> hl(hl() + 65535);
            case 0x3B -> sp = (sp + 65535) % 65536;
            case 0x07 -> {
                k = a > 127;
                a = a * 2 % 256 + (k ? 1 : 0);
            }
            case 0x0F -> {
                k = a % 2 == 1;
                a = a / 2 + (k ? 128 : 0);
            }
            case 0x17 -> {
                int low = k ? 1 : 0;
                k = a > 127;
                a = a * 2 % 256 + low;
            }
            case 0x1F -> {
                int high = k ? 128 : 0;
                k = a % 2 == 1;
                a = a / 2 + high;
            }
            case 0x27 -> {
                boolean lowOver = a % 16 > 9 || half;
                boolean highOver = a > 0x99 || k;
                int v = (lowOver ? 6 : 0) + (highOver ? 0x60 : 0);
                half = a % 16 + v % 16 > 15;
                k = highOver;
                a = result(a + v);
            }
            case 0x2F -> a = 255 - a;
            case 0x37 -> k = true;
            case 0x3F -> k = !k;
            default -> throw new AssertionError(op);
        }
    }

    private void add(int w) {
        int sum = hl() + w;
        k = sum > 65535;
        hl(sum);
    }

    private int upper(int op) {
        int y = op / 8 % 8;
        switch (op % 8) {
            case 0 -> {
                if (condition(y)) {
                    pc = pop();
                    return 11;
                }
                return 5;
            }
            case 2 -> {
                int w = word();
                pc = condition(y) ? w : pc;
                return 10;
            }
            case 4 -> {
                int w = word();
                if (condition(y)) {
                    push(pc);
                    pc = w;
                    return 17;
                }
                return 11;
            }
            case 6 -> alu(y, next());
            case 7 -> {
                push(pc);
                pc = op - 199;
            }
            default -> rest(op);
        }
        return STATES[op];
    }

    private void rest(int op) {
        switch (op) {
            case 0xC1 -> bc(pop());
            case 0xD1 -> de(pop());
            case 0xE1 -> hl(pop());
            case 0xF1 -> {
                int w = pop();
                a = w / 256;
                flags(w);
            }
            case 0xC9, 0xD9 -> pc = pop();
            case 0xE9 -> pc = hl();
            case 0xF9 -> sp = hl();
            case 0xC3, 0xCB -> pc = word();
            case 0xD3 -> out(next());
            case 0xDB -> in(next());
            case 0xE3 -> {
                int low = read(sp);
                int high = read(sp + 1);
                write(sp, l);
                write(sp + 1, h);
                l = low;
                h = high;
            }
            case 0xEB -> {
                int w = de();
                de(hl());
                hl(w);
            }
            case 0xF3 -> interrupts = false;
            case 0xFB -> interrupts = true;
            case 0xC5 -> push(bc());
            case 0xD5 -> push(de());
            case 0xE5 -> push(hl());
            case 0xF5 -> push(a * 256 + flags());
            case 0xCD, 0xDD, 0xED, 0xFD -> {
                int w = word();
                push(pc);
                pc = w;
            }
            default -> throw new AssertionError(op);
        }
    }

    private void in(int port) {
        a = switch (port) {
            case 0 -> dips;
            case 1 -> inputs + Math.min(coins, 1);
            case 3 -> shift * (1 << offset) / 256 % 256;
            default -> 0;
        };
    }

    private void out(int port) {
        switch (port) {
            case 2 -> offset = a % 8;
            case 3 -> {
                hear(3, last3);
                last3 = a;
            }
            case 4 -> shift = shift / 256 + 256 * a;
            case 5 -> {
                hear(5, last5);
                last5 = a;
            }
            case 6 -> watch = 0;
            default -> { }
        }
    }

    private void hear(int port, int last) {
        for (int i = 0; i < 8; i++) {
            if ((a >> i) % 2 == 1 && (last >> i) % 2 == 0) {
                sounds.add(8 * port + i);
            }
        }
    }
}
