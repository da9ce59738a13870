/**
 * A small home computer's board: one memory, whose slots are shared clock by clock among refresh,
 * the picture's planes, the list, the mover and the processor.
 */
public final class SlotBoard {
    private static final int WORD_BITS = 65535;
    private static final int ADDRESS_BITS = 255;

    private static final int CLOCKS_SHIFT = 5;
    private static final int CLOCK_BITS = 31;
    private static final int PLACES = 640;
    private static final int MOST_CLOCKS = 700;

    private static final int OWNERS = 6;
    private static final int OWNER_NONE = 0;
    private static final int OWNER_REFRESH = 1;
    private static final int OWNER_PLANES = 2;
    private static final int OWNER_LIST = 3;
    private static final int OWNER_MOVER = 4;
    private static final int OWNER_PROCESSOR = 5;

    private static final int REFRESH_CLOCK_0 = 0;
    private static final int REFRESH_CLOCK_1 = 2;

    private final Memory memory;
    private final Registers registers;
    private final Picture picture;
    private final BeamList list;
    private final Mover mover;
    private final Processor processor;
    private final int[] owned;
    private int beam;
    private int begunFrames;

    public SlotBoard() {
        memory = new Memory();
        registers = new Registers();
        picture = new Picture();
        list = new BeamList();
        mover = new Mover();
        processor = new Processor();
        owned = new int[OWNERS];
    }

    public boolean access(int kind, int a, int v) {
        if (kind < Processor.STORE || kind > Processor.WRITE) {
            return false;
        }
        int highest = kind == Processor.WRITE ? Registers.HIGHEST_NUMBER : ADDRESS_BITS;
        if (a < 0 || a > highest) {
            return false;
        }
        return processor.enqueue(kind, a, v & WORD_BITS);
    }

    public boolean set(int a, int v) {
        if (!isAddress(a)) {
            return false;
        }
        memory.put(a, v);
        return true;
    }

    public int run(int n) {
        if (n < 1 || n > MOST_CLOCKS) {
            return -1;
        }
        int before = owned[OWNER_NONE];
        for (int done = 0; done < n; done++) {
            oneClock();
        }
        return owned[OWNER_NONE] - before;
    }

    public int word(int a) {
        return isAddress(a) ? memory.at(a) : -1;
    }

    public int point(int x, int y) {
        return picture.shownAt(x, y);
    }

    public int place() {
        return beam;
    }

    public int frames() {
        return begunFrames;
    }

    public int slots(int owner) {
        return owner < 0 || owner >= OWNERS ? -1 : owned[owner];
    }

    public int look(int what) {
        switch (what) {
            case 0: return registers.requests;
            case 1: return oneIf(registers.isEnabledRequested());
            case 2: return oneIf(mover.busy);
            case 3: return oneIf(mover.zero);
            case 4: return processor.waiting;
            case 5: return processor.loaded;
            case 6: return processor.loads;
            case 7: return list.state;
            case 8: return list.address;
            default: return -1;
        }
    }

    public int register(int r) {
        return r < 0 || r >= Registers.COUNT ? -1 : registers.at(r);
    }

    private static boolean isAddress(int a) {
        return a >= 0 && a <= ADDRESS_BITS;
    }

    private static int oneIf(boolean condition) {
        return condition ? 1 : 0;
    }

    private void oneClock() {
        int line = beam >> CLOCKS_SHIFT;
        int clock = beam & CLOCK_BITS;
        if (beam == 0) {
            beginFrame();
        }
        picture.showClock(line, clock, registers);
        if (registers.isOn(Registers.LIST_ON)) {
            list.wakeAt(beam);
        }
        int owner = ownerOfSlot(line, clock);
        owned[owner]++;
        doWorkOf(owner, clock);
        beam = beam + 1 < PLACES ? beam + 1 : 0;
    }

    private void beginFrame() {
        begunFrames++;
        registers.request(Registers.FRAME_REQUEST);
        picture.returnToBases(registers);
        if (registers.isOn(Registers.LIST_ON)) {
            list.goOnAt(registers.at(Registers.START));
        }
    }

    private int ownerOfSlot(int line, int clock) {
        if (clock == REFRESH_CLOCK_0 || clock == REFRESH_CLOCK_1) {
            return OWNER_REFRESH;
        }
        if (registers.isOn(Registers.PLANES_ON) && Picture.isFetchClock(line, clock)) {
            return OWNER_PLANES;
        }
        if ((clock & 1) == 0 && registers.isOn(Registers.LIST_ON) && list.state == BeamList.FETCH) {
            return OWNER_LIST;
        }
        return moverOrProcessor();
    }

    private int moverOrProcessor() {
        boolean moverWants = mover.busy && registers.isOn(Registers.MOVER_ON);
        boolean moverFirst = registers.isOn(Registers.MOVER_FIRST) || !processor.hasLostEnough();
        if (moverWants && (moverFirst || !processor.wantsSlot())) {
            return OWNER_MOVER;
        }
        return processor.wantsSlot() ? OWNER_PROCESSOR : OWNER_NONE;
    }

    private void doWorkOf(int owner, int clock) {
        switch (owner) {
            case OWNER_PLANES:
                picture.fetchAt(clock, memory, registers.at(Registers.MODULO));
                break;
            case OWNER_LIST:
                fetchForList();
                break;
            case OWNER_MOVER:
                processor.seeMoverSlot();
                mover.takeSlot(memory, registers);
                break;
            case OWNER_PROCESSOR:
                doFirstAccess();
                break;
            default:
                break;
        }
    }

    private void fetchForList() {
        int fetched = memory.at(list.address);
        if (list.takeWord(fetched, beam)) {
            writeRegister(list.movedRegister(), fetched);
        }
    }

    private void doFirstAccess() {
        int a = processor.firstTarget();
        int v = processor.firstValue();
        switch (processor.firstKind()) {
            case Processor.STORE:
                memory.put(a, v);
                break;
            case Processor.LOAD:
                processor.load(memory.at(a));
                break;
            default:
                writeRegister(a, v);
                break;
        }
        processor.dropFirst();
    }

    private void writeRegister(int number, int value) {
        switch (number) {
            case Registers.JUMP:
                list.goOnAt(registers.at(Registers.START));
                break;
            case Registers.SIZE:
                mover.begin(value);
                break;
            case Registers.CLEAR_REQUESTS:
                registers.clearRequests(value);
                break;
            default:
                registers.put(number, value);
                break;
        }
    }

    private static final class Memory {
        private static final int WORDS = 256;

        private final int[] words = new int[WORDS];

        int at(int address) {
            return words[address & ADDRESS_BITS];
        }

        void put(int address, int value) {
            words[address & ADDRESS_BITS] = value & WORD_BITS;
        }
    }

    /** What the registers have, and the requests that register 27 clears. */
    private static final class Registers {
        static final int COUNT = 28;
        static final int HIGHEST_NUMBER = 31;

        static final int CONTROL = 0;
        static final int START = 1;
        static final int JUMP = 2;
        static final int BASES = 3;
        static final int MODULO = 5;
        static final int COLOURS = 6;
        static final int FUNCTION = 10;
        static final int SHIFT_B = 11;
        static final int POINTERS = 12;
        static final int MODULOS = 16;
        static final int FIRST_MASK = 20;
        static final int LAST_MASK = 21;
        static final int DATA = 22;
        static final int SIZE = 25;
        static final int ENABLED = 26;
        static final int CLEAR_REQUESTS = 27;

        static final int PLANES_ON = 1;
        static final int LIST_ON = 2;
        static final int MOVER_ON = 4;
        static final int MOVER_FIRST = 8;

        static final int MOVER_REQUEST = 1;
        static final int FRAME_REQUEST = 2;

        /** The bits that count, register by register; those that only cause something keep none. */
        private static final int[] COUNTING_BITS = {
            15, 255, 0, 255, 255, 255, 4095, 4095, 4095, 4095,
            65535, 15, 255, 255, 255, 255, 255, 255, 255, 255,
            65535, 65535, 65535, 65535, 65535, 0, 3, 0
        };

        private final int[] values = new int[COUNT];
        private int requests;

        int at(int number) {
            return number < 0 || number >= COUNT ? 0 : values[number];
        }

        void put(int number, int value) {
            if (number >= 0 && number < COUNT) {
                values[number] = value & COUNTING_BITS[number];
            }
        }

        void grow(int number, int by) {
            if (number >= 0 && number < COUNT) {
                values[number] = (values[number] + by) & COUNTING_BITS[number];
            }
        }

        boolean isOn(int controlBit) {
            return (values[CONTROL] & controlBit) != 0;
        }

        void request(int bit) {
            requests |= bit;
        }

        void clearRequests(int bits) {
            requests &= ~bits;
        }

        boolean isEnabledRequested() {
            return (requests & values[ENABLED]) != 0;
        }
    }

    private static final class Picture {
        private static final int PLANES = 2;
        private static final int FIRST_LINE = 4;
        private static final int LINES = 12;
        private static final int POINTS_OF_LINE = 32;
        private static final int FIRST_CLOCK = 16;
        private static final int SECOND_LOAD_CLOCK = 24;
        private static final int FETCH_1_CLOCK_0 = 11;
        private static final int FETCH_0_CLOCK_0 = 15;
        private static final int FETCH_1_CLOCK_1 = 19;
        private static final int FETCH_0_CLOCK_1 = 23;
        private static final int HIGHEST_BIT = 15;

        private final int[] places = new int[PLANES];
        private final int[] latches = new int[PLANES];
        private final int[] shifters = new int[PLANES];
        private final int[] points = new int[LINES * POINTS_OF_LINE];

        static boolean isLine(int line) {
            return line >= FIRST_LINE && line < FIRST_LINE + LINES;
        }

        static boolean isFetchClock(int line, int clock) {
            return isLine(line) && (isFetchClockOf1(clock) || clock == FETCH_0_CLOCK_0 || clock == FETCH_0_CLOCK_1);
        }

        private static boolean isFetchClockOf1(int clock) {
            return clock == FETCH_1_CLOCK_0 || clock == FETCH_1_CLOCK_1;
        }

        int shownAt(int x, int y) {
            if (x < 0 || x >= POINTS_OF_LINE || y < 0 || y >= LINES) {
                return -1;
            }
            return points[y * POINTS_OF_LINE + x];
        }

        void returnToBases(Registers registers) {
            for (int plane = 0; plane < PLANES; plane++) {
                places[plane] = registers.at(Registers.BASES + plane);
            }
        }

        void showClock(int line, int clock, Registers registers) {
            if (clock == 0) {
                clearLatches();
            }
            if (clock == FIRST_CLOCK || clock == SECOND_LOAD_CLOCK) {
                System.arraycopy(latches, 0, shifters, 0, PLANES);
                clearLatches();
            }
            if (isLine(line) && clock >= FIRST_CLOCK) {
                int left = (line - FIRST_LINE) * POINTS_OF_LINE + 2 * (clock - FIRST_CLOCK);
                points[left] = registers.at(Registers.COLOURS + shiftOut());
                points[left + 1] = registers.at(Registers.COLOURS + shiftOut());
            }
        }

        void fetchAt(int clock, Memory memory, int modulo) {
            int plane = isFetchClockOf1(clock) ? 1 : 0;
            latches[plane] = memory.at(places[plane]);
            places[plane] = (places[plane] + 1) & ADDRESS_BITS;
            if (clock == FETCH_0_CLOCK_1) {
                places[0] = (places[0] + modulo) & ADDRESS_BITS;
                places[1] = (places[1] + modulo) & ADDRESS_BITS;
            }
        }

        private void clearLatches() {
            latches[0] = 0;
            latches[1] = 0;
        }

        private int shiftOut() {
            int number = (shifters[0] >> HIGHEST_BIT) + 2 * (shifters[1] >> HIGHEST_BIT);
            shifters[0] = (shifters[0] << 1) & WORD_BITS;
            shifters[1] = (shifters[1] << 1) & WORD_BITS;
            return number;
        }
    }

    /** The list of moves and waits that follows the beam. */
    private static final class BeamList {
        static final int STOPPED = 0;
        static final int FETCH = 1;
        static final int WAITING = 2;

        private static final int TARGET_BITS = 1023;
        private static final int NUMBER_BITS = 31;

        private int state = STOPPED;
        private int address;
        private int first;
        private int target;
        private boolean halfway;
        private boolean leavesMoveOut;

        void goOnAt(int start) {
            state = FETCH;
            address = start;
            halfway = false;
            leavesMoveOut = false;
        }

        void wakeAt(int beam) {
            if (state == WAITING && beam >= target) {
                state = FETCH;
            }
        }

        /** Takes the word fetched at its address; answers whether it ends a MOVE that is to be done. */
        boolean takeWord(int fetched, int beam) {
            address = (address + 1) & ADDRESS_BITS;
            halfway = !halfway;
            if (halfway) {
                first = fetched;
                return false;
            }
            boolean leftOut = leavesMoveOut;
            leavesMoveOut = false;
            if ((first & 1) == 0) {
                return !leftOut && movedRegister() > Registers.JUMP;
            }
            waitOrSkip(fetched, beam);
            return false;
        }

        int movedRegister() {
            return (first >> 1) & NUMBER_BITS;
        }

        private void waitOrSkip(int second, int beam) {
            target = (first >> 3) & TARGET_BITS;
            if ((second & 1) == 0) {
                state = WAITING;
            } else {
                leavesMoveOut = beam >= target;
            }
        }
    }

    /** The machine that moves and combines blocks of words. */
    private static final class Mover {
        private static final int A = 0;
        private static final int B = 1;
        private static final int C = 2;
        private static final int D = 3;
        private static final int CHANNELS = 4;
        private static final int USED_SHIFT = 8;
        private static final int SHIFT_A_SHIFT = 12;
        private static final int BITS_OF_WORD = 16;

        /** Kept apart from the DATA registers, which a fetch leaves as they are. */
        private final int[] fetched = new int[D];
        private boolean busy;
        private boolean zero;
        private int width;
        private int height;
        private int column;
        private int row;
        private int nextChannel;
        private int beforeA;
        private int beforeB;

        void begin(int size) {
            width = (size & 7) == 0 ? 8 : size & 7;
            height = (size >> 4 & 15) == 0 ? 16 : size >> 4 & 15;
            column = 0;
            row = 0;
            nextChannel = A;
            beforeA = 0;
            beforeB = 0;
            zero = true;
            busy = true;
        }

        void takeSlot(Memory memory, Registers registers) {
            int function = registers.at(Registers.FUNCTION);
            int channel = usedFrom(function, nextChannel);
            if (channel < D) {
                fetched[channel] = memory.at(registers.at(Registers.POINTERS + channel));
                registers.grow(Registers.POINTERS + channel, 1);
            }
            if (usedFrom(function, channel + 1) < CHANNELS) {
                nextChannel = channel + 1;
                return;
            }
            int result = finishWord(function, registers);
            if (channel == D) {
                memory.put(registers.at(Registers.POINTERS + D), result);
                registers.grow(Registers.POINTERS + D, 1);
            }
            goOn(function, registers);
        }

        /** The first used channel from this one on, CHANNELS if there is none. */
        private static int usedFrom(int function, int channel) {
            for (int each = channel; each < CHANNELS; each++) {
                if (isUsed(function, each)) {
                    return each;
                }
            }
            return CHANNELS;
        }

        private static boolean isUsed(int function, int channel) {
            return (function >> (USED_SHIFT + channel) & 1) != 0;
        }

        private int finishWord(int function, Registers registers) {
            int a = masked(wordOf(A, function, registers), registers);
            int b = wordOf(B, function, registers);
            int c = wordOf(C, function, registers);
            int shiftedA = shifted(beforeA, a, function >> SHIFT_A_SHIFT);
            int shiftedB = shifted(beforeB, b, registers.at(Registers.SHIFT_B));
            int result = combined(function, shiftedA, shiftedB, c);
            beforeA = a;
            beforeB = b;
            if (result != 0) {
                zero = false;
            }
            return result;
        }

        private int wordOf(int channel, int function, Registers registers) {
            return isUsed(function, channel) ? fetched[channel] : registers.at(Registers.DATA + channel);
        }

        private int masked(int word, Registers registers) {
            int kept = word;
            if (column == 0) {
                kept &= registers.at(Registers.FIRST_MASK);
            }
            if (column == width - 1) {
                kept &= registers.at(Registers.LAST_MASK);
            }
            return kept;
        }

        private static int shifted(int before, int word, int by) {
            return (before << BITS_OF_WORD | word) >>> by & WORD_BITS;
        }

        private static int combined(int terms, int a, int b, int c) {
            int result = 0;
            for (int n = 0; n < BITS_OF_WORD; n++) {
                int term = 4 * (a >> n & 1) + 2 * (b >> n & 1) + (c >> n & 1);
                result |= (terms >> term & 1) << n;
            }
            return result;
        }

        private void goOn(int function, Registers registers) {
            nextChannel = A;
            column++;
            if (column < width) {
                return;
            }
            column = 0;
            addModulos(function, registers);
            row++;
            if (row == height) {
                busy = false;
                registers.request(Registers.MOVER_REQUEST);
            }
        }

        private static void addModulos(int function, Registers registers) {
            for (int channel = A; channel < CHANNELS; channel++) {
                if (isUsed(function, channel)) {
                    registers.grow(Registers.POINTERS + channel, registers.at(Registers.MODULOS + channel));
                }
            }
        }
    }

    /** The processor's queue of accesses, a ring, and what became of its loads and lost slots. */
    private static final class Processor {
        static final int STORE = 0;
        static final int LOAD = 1;
        static final int WRITE = 2;

        private static final int ROOM = 8;
        private static final int RING_BITS = 7;
        private static final int ENOUGH_LOST = 3;

        private final int[] kinds = new int[ROOM];
        private final int[] targets = new int[ROOM];
        private final int[] values = new int[ROOM];
        private int head;
        private int waiting;
        private int lost;
        private int loaded;
        private int loads;

        boolean enqueue(int kind, int target, int value) {
            if (waiting >= ROOM) {
                return false;
            }
            int tail = (head + waiting) & RING_BITS;
            kinds[tail] = kind;
            targets[tail] = target;
            values[tail] = value;
            waiting++;
            return true;
        }

        boolean wantsSlot() {
            return waiting > 0;
        }

        boolean hasLostEnough() {
            return lost >= ENOUGH_LOST;
        }

        void seeMoverSlot() {
            lost = wantsSlot() ? lost + 1 : 0;
        }

        int firstKind() {
            return kinds[head];
        }

        int firstTarget() {
            return targets[head];
        }

        int firstValue() {
            return values[head];
        }

        void load(int word) {
            loaded = word;
            loads++;
        }

        void dropFirst() {
            head = (head + 1) & RING_BITS;
            waiting--;
            lost = 0;
        }
    }
}
