/** Paragraph 6: the mover. */
public final class MoverTest {
  private static final int A = 0x100;
  private static final int B = 0x200;
  private static final int C = 0x400;
  private static final int D = 0x800;
  private static final Check check = new Check("MoverTest");

  public static void main(String[] args) {
    movesAsAWholeBlockDoes();
    eachTermIsItsBit();
    sizesOfZero();
    sizeTakesItsBitsAlone();
    eachUsedChannelTakesASlot();
    masksOfOneWord();
    masksOfTheWidestRow();
    smallestAndLargestShifts();
    channelsGoRound();
    fetchLeavesDataAlone();
    resultWithoutD();
    fetchedWordsStayForLaterMoves();
    fetchedWordsOfBStay();
    fetchedWordIsNotData();
    channelsThatAreUsedNoMore();
    channelUsedLate();
    registersCountInEachSlot();
    firstMaskOfTheLastSlotCounts();
    pointersCountInEachSlot();
    sizeCountsAtBegin();
    beginsAnewWhileBusy();
    beginsAnewWithTheFirstRow();
    stopsWhileMoverIsOff();
    endsWithARequest();
    modulosOfUsedChannelsAlone();
    modulosOfTheLastSlotCount();
    wordsBeforeGoOverRows();
    wordsBeforeAreZeroAtBegin();
    zeroOfATermThatIsOneOutsideTheWord();
    check.end();
  }

  /** Runs the mover alone until it is not busy, and answers how many slots it took. */
  private static int finish(SlotBoard board) {
    int before = board.slots(4);
    Boards.write(board, 0, 12);
    for (int i = 0; i < 3 && board.look(2) == 1; i++) board.run(700);
    return board.slots(4) - before;
  }

  // --- whole moves against a plain model of a block ---

  private static int seed = 4711;

  private static int next(int bound) {
    seed = seed * 1103515245 + 12345;
    return (seed >>> 8) % bound;
  }

  private static void movesAsAWholeBlockDoes() {
    for (int i = 0; i < 300; i++) oneBlock(i);
  }

  private static void oneBlock(int number) {
    SlotBoard board = new SlotBoard();
    int[] memory = new int[256];
    for (int a = 0; a < 256; a++) memory[a] = next(4) == 0 ? 0 : next(65536);
    Boards.setFrom(board, 0, memory);
    int[] r = new int[28];
    for (int n = 10; n < 26; n++) r[n] = next(65536);
    r[11] &= 15;
    for (int n = 12; n < 20; n++) r[n] &= 255;
    if (next(3) == 0) r[20] = 65535;
    if (next(3) == 0) r[21] = 65535;
    for (int n = 10; n < 26; n++) {
      board.access(2, n, r[n]);
      if (n % 8 == 1) board.run(12);
    }
    int slots = finish(board);
    boolean zero = wholeBlock(memory, r);

    int used = Integer.bitCount(r[10] & 0xf00);
    int words = ((r[25] & 7) == 0 ? 8 : r[25] & 7) * ((r[25] >> 4 & 15) == 0 ? 16 : r[25] >> 4 & 15);
    check.due("block " + number + ": slots", slots, words * Math.max(1, used));
    check.due("block " + number + ": look(3)", board.look(3), zero ? 1 : 0);
    for (int n = 10; n < 25; n++) check.due("block " + number + ": register(" + n + ")", board.register(n), r[n]);
    // No object is asked more than 512 times: each block looks at other 192 words.
    int wrongWords = 0;
    for (int i = 0; i < 192; i++) {
      int a = 37 * number + i & 255;
      if (board.word(a) != memory[a]) wrongWords++;
    }
    check.due("block " + number + ": wrong words", wrongWords, 0);
  }

  /** Does what a move with registers that do not change does to them and the memory; answers ZERO. */
  private static boolean wholeBlock(int[] memory, int[] r) {
    int width = (r[25] & 7) == 0 ? 8 : r[25] & 7;
    int height = (r[25] >> 4 & 15) == 0 ? 16 : r[25] >> 4 & 15;
    long lastA = 0;
    long lastB = 0;
    boolean zero = true;
    for (int word = 0; word < width * height; word++) {
      long[] in = new long[3];
      for (int channel = 0; channel < 3; channel++) {
        boolean used = (r[10] >> 8 + channel & 1) == 1;
        in[channel] = used ? memory[r[12 + channel]] : r[22 + channel];
        if (used) r[12 + channel] = (r[12 + channel] + 1) % 256;
      }
      if (word % width == 0) in[0] &= r[20];
      if (word % width == width - 1) in[0] &= r[21];
      long a = lastA * 65536 + in[0] >> (r[10] >> 12);
      long b = lastB * 65536 + in[1] >> r[11];
      lastA = in[0];
      lastB = in[1];
      int result = 0;
      for (int n = 15; n >= 0; n--) {
        long term = (a >> n) % 2 * 4 + (b >> n) % 2 * 2 + (in[2] >> n) % 2;
        result = 2 * result + (r[10] >> term & 1);
      }
      zero = zero && result == 0;
      if ((r[10] & D) != 0) {
        memory[r[15]] = result;
        r[15] = (r[15] + 1) % 256;
      }
      if (word % width == width - 1) {
        for (int channel = 0; channel < 4; channel++) {
          if ((r[10] >> 8 + channel & 1) == 1) r[12 + channel] = (r[12 + channel] + r[16 + channel]) % 256;
        }
      }
    }
    return zero;
  }

  // --- single promises ---

  /** DATA A, B and C hold all eight combinations, so a single term shows in its two bits. */
  private static void eachTermIsItsBit() {
    for (int term = 0; term < 8; term++) {
      SlotBoard board = new SlotBoard();
      Boards.write(board, 10, D | 1 << term, 20, 65535, 21, 65535, 22, 0xf0f0, 23, 0xcccc, 24, 0xaaaa,
          15, 50, 25, 0x11);
      finish(board);
      check.due("term " + term, board.word(50), 0x0101 << term);
    }
  }

  private static void sizesOfZero() {
    int[] sizes = {0x00, 0x10, 0x01, 0x11, 0x77, 0xf7, 0xffff, 0x08, 0xff08, 0xff80};
    int[] words = {128, 8, 16, 1, 49, 105, 105, 128, 128, 64};
    for (int i = 0; i < sizes.length; i++) {
      SlotBoard board = new SlotBoard();
      Boards.write(board, 10, D, 25, sizes[i]);
      check.due("slots of size " + sizes[i], finish(board), words[i]);
      check.due("register(15) of size " + sizes[i], board.register(15), words[i]);
      check.due("register(25)", board.register(25), 0);
    }
  }

  private static void sizeTakesItsBitsAlone() {
    SlotBoard board = new SlotBoard();
    Boards.write(board, 25, 0xff00 | 0x08 | 0x32);
    check.due("slots", finish(board), 6);
  }

  private static void eachUsedChannelTakesASlot() {
    for (int used = 0; used < 16; used++) {
      SlotBoard board = new SlotBoard();
      Boards.write(board, 10, used << 8, 25, 0x23);
      check.due("slots of channels " + used, finish(board), 6 * Math.max(1, Integer.bitCount(used)));
      for (int channel = 0; channel < 4; channel++) {
        check.due("pointer " + channel + " of channels " + used, board.register(12 + channel),
            (used >> channel & 1) * 6);
      }
    }
  }

  private static void masksOfOneWord() {
    SlotBoard board = new SlotBoard();
    Boards.write(board, 10, D | 0xf0, 20, 0x0ff0, 21, 0xff00, 22, 65535, 15, 50, 25, 0x21);
    finish(board);
    check.due("word(50)", board.word(50), 0x0f00);
    check.due("word(51)", board.word(51), 0x0f00);
    Boards.write(board, 15, 60, 25, 0x23);
    finish(board);
    int[] due = {0x0ff0, 65535, 0xff00, 0x0ff0, 65535, 0xff00, 0};
    for (int i = 0; i < due.length; i++) check.due("word(" + (60 + i) + ")", board.word(60 + i), due[i]);
  }

  /** WIDTH 0 stands for 8: the masks are for words 0 and 7 of each row. */
  private static void masksOfTheWidestRow() {
    SlotBoard board = new SlotBoard();
    Boards.write(board, 10, D | 0xf0, 20, 0x00ff, 21, 0xff00, 22, 65535, 15, 50, 25, 0x20);
    finish(board);
    for (int i = 0; i < 16; i++) {
      int due = i % 8 == 0 ? 0x00ff : i % 8 == 7 ? 0xff00 : 65535;
      check.due("word(" + (50 + i) + ")", board.word(50 + i), due);
    }
    check.due("word(66)", board.word(66), 0);
  }

  private static void smallestAndLargestShifts() {
    int[] shifts = {0, 1, 15};
    int[][] due = {{0x8001, 0x4002}, {0x4000, 0xa001}, {0x0001, 0x0002}};
    for (int i = 0; i < shifts.length; i++) {
      SlotBoard board = new SlotBoard();
      Boards.setFrom(board, 0, 0x8001, 0x4002);
      Boards.write(board, 20, 65535, 21, 65535, 10, shifts[i] << 12 | A | D | 0xf0, 15, 50, 25, 0x12);
      finish(board);
      check.due("word(50) of A with shift " + shifts[i], board.word(50), due[i][0]);
      check.due("word(51) of A with shift " + shifts[i], board.word(51), due[i][1]);
      Boards.write(board, 11, 0xfff0 | shifts[i], 10, B | D | 0xcc, 15, 60, 25, 0x12);
      finish(board);
      check.due("word(60) of B with shift " + shifts[i], board.word(60), due[i][0]);
      check.due("word(61) of B with shift " + shifts[i], board.word(61), due[i][1]);
    }
  }

  private static void channelsGoRound() {
    int[] terms = {0xf0, 0xcc, 0xaa};
    for (int channel = 0; channel < 3; channel++) {
      SlotBoard board = new SlotBoard();
      Boards.setFrom(board, 255, 0x1111, 0x2222);
      Boards.write(board, 20, 65535, 21, 65535, 12 + channel, 255, 15, 50);
      Boards.write(board, 10, A << channel | D | terms[channel], 25, 0x12);
      finish(board);
      check.due("word(50) of channel " + channel, board.word(50), 0x1111);
      check.due("word(51) of channel " + channel, board.word(51), 0x2222);
      check.due("pointer " + channel, board.register(12 + channel), 1);
    }
    SlotBoard board = new SlotBoard();
    Boards.write(board, 10, D | 0xff, 15, 255, 25, 0x12);
    finish(board);
    check.due("word(254)", board.word(254), 0);
    check.due("word(255)", board.word(255), 65535);
    check.due("word(0)", board.word(0), 65535);
    check.due("word(1)", board.word(1), 0);
    check.due("pointer of D", board.register(15), 1);
  }

  private static void fetchLeavesDataAlone() {
    SlotBoard board = new SlotBoard();
    Boards.setFrom(board, 0, 0x1234, 0x5678, 0x9abc);
    Boards.write(board, 10, A | B | C, 13, 1, 14, 2, 22, 7, 23, 8, 24, 9, 25, 0x11);
    finish(board);
    check.due("register(22)", board.register(22), 7);
    check.due("register(23)", board.register(23), 8);
    check.due("register(24)", board.register(24), 9);
  }

  private static void resultWithoutD() {
    SlotBoard board = new SlotBoard();
    Boards.write(board, 10, 1, 15, 50, 19, 5, 25, 0x11);
    check.due("look(3) begun", board.look(3), 1);
    finish(board);
    check.due("look(3)", board.look(3), 0);
    check.due("word(50)", board.word(50), 0);
    check.due("register(15)", board.register(15), 50);
    Boards.write(board, 10, 0, 25, 0x11);
    check.due("look(3) begun anew", board.look(3), 1);
    finish(board);
    check.due("look(3) of zeros", board.look(3), 1);
    Boards.setFrom(board, 0, 1, 0, 0);
    Boards.write(board, 10, C | 0xaa, 25, 0x13);
    finish(board);
    check.due("look(3) of a one before zeros", board.look(3), 0);
  }

  /** Lets the mover have just three slots, then does the writes; MOVER is off behind them. */
  private static void threeSlotsThenWrite(SlotBoard board, int... pairs) {
    Boards.runTo(board, (board.place() / 32 + 1) % 20 * 32 + 3);
    int before = board.slots(4);
    Boards.queue(board, 0, 4, 0, 0);
    Boards.queue(board, pairs);
    board.run(12);
    check.due("three slots", board.slots(4) - before, 3);
    check.due("queue is empty", board.look(4), 0);
  }

  /** Each channel's word of an earlier move is used where FUNCTION says so only behind its turn. */
  private static void fetchedWordsStayForLaterMoves() {
    SlotBoard board = new SlotBoard();
    Boards.setFrom(board, 0, 0x1234);
    Boards.write(board, 20, 65535, 21, 65535, 10, A, 25, 0x11);
    finish(board);
    Boards.write(board, 0, 0, 10, B | D | 0xf0, 15, 50, 22, 0x7777, 25, 0x14);
    threeSlotsThenWrite(board, 10, A | B | D | 0xf0);
    check.due("word(50) of DATA A", board.word(50), 0x7777);
    check.due("word(51) not yet", board.word(51), 0);
    board.set(1, 0x4321);
    finish(board);
    check.due("word(51) of the A fetched in the move before", board.word(51), 0x1234);
    check.due("word(52) of the A fetched now", board.word(52), 0x4321);
  }

  private static void fetchedWordsOfBStay() {
    SlotBoard board = new SlotBoard();
    Boards.setFrom(board, 0, 0x1234, 0x4321);
    Boards.write(board, 10, B, 25, 0x11);
    finish(board);
    Boards.write(board, 0, 0, 10, C | D | 0xcc, 14, 100, 15, 50, 23, 0x7777, 25, 0x14);
    threeSlotsThenWrite(board, 10, B | C | D | 0xcc);
    check.due("word(50) of DATA B", board.word(50), 0x7777);
    finish(board);
    check.due("word(51) of the B fetched in the move before", board.word(51), 0x1234);
    check.due("word(52) of the B fetched now", board.word(52), 0x4321);
  }

  private static void fetchedWordIsNotData() {
    SlotBoard board = new SlotBoard();
    Boards.write(board, 20, 65535, 21, 65535, 22, 0x7777, 10, B | D | 0xf0, 15, 50, 25, 0x12);
    threeSlotsThenWrite(board, 10, A | B | D | 0xf0);
    finish(board);
    check.due("word(50)", board.word(50), 0x7777);
    check.due("word(51) with nothing fetched", board.word(51), 0);
  }

  private static void channelsThatAreUsedNoMore() {
    SlotBoard board = new SlotBoard();
    Boards.setFrom(board, 0, 0x1111, 0x2222, 0x4444);
    Boards.write(board, 20, 65535, 21, 65535, 22, 0x0100, 23, 0x0200, 24, 0x0400, 13, 1, 14, 2, 15, 50);
    Boards.write(board, 10, A | B | C | D | 0xfe, 25, 0x11);
    threeSlotsThenWrite(board, 10, 0xfe);
    check.due("look(2) before the last slot", board.look(2), 1);
    check.due("slots", finish(board), 1);
    check.due("look(3) of the DATA", board.look(3), 0);
    check.due("word(50)", board.word(50), 0);
    check.due("register(15)", board.register(15), 50);

    Boards.write(board, 0, 0, 12, 0, 13, 1, 14, 2, 10, A | B | C | D | 0xfe, 25, 0x11);
    threeSlotsThenWrite(board, 10, B | D | 0xfe);
    check.due("slots with D", finish(board), 1);
    check.due("word(50) of DATA A and C and the word of B", board.word(50), 0x2722);
    check.due("register(13)", board.register(13), 2);
  }

  /** B comes to be used when C was taken: it is not gone back to in this word. */
  private static void channelUsedLate() {
    SlotBoard board = new SlotBoard();
    Boards.setFrom(board, 0, 0x1111, 0x2222, 0x4444);
    Boards.write(board, 20, 65535, 21, 65535, 23, 0x0200, 13, 1, 14, 2, 15, 50);
    Boards.write(board, 10, C | D | 0xcc, 25, 0x12);
    threeSlotsThenWrite(board, 10, B | C | D | 0xcc);
    check.due("word(50)", board.word(50), 0x0200);
    check.due("slots", finish(board), 1);
    check.due("word(51)", board.word(51), 0);
    check.due("register(13)", board.register(13), 1);
  }

  private static void registersCountInEachSlot() {
    SlotBoard board = new SlotBoard();
    Boards.write(board, 20, 65535, 21, 65535, 22, 0x1111, 10, D | 0xf0, 15, 50, 25, 0x15);
    threeSlotsThenWrite(board, 22, 0x2222, 21, 0x0222, 10, 0x4000 | D | 0xf0);
    finish(board);
    int[] due = {0x1111, 0x1111, 0x1111, 0x1222, 0x2022};
    for (int i = 0; i < due.length; i++) check.due("word(" + (50 + i) + ")", board.word(50 + i), due[i]);

    board = new SlotBoard();
    Boards.write(board, 23, 0x1111, 10, D | 0xcc, 15, 50, 25, 0x15);
    threeSlotsThenWrite(board, 23, 0x2222, 11, 8);
    finish(board);
    int[] dueOfB = {0x1111, 0x1111, 0x1111, 0x1122, 0x2222};
    for (int i = 0; i < dueOfB.length; i++) check.due("B: word(" + (50 + i) + ")", board.word(50 + i), dueOfB[i]);
  }

  /** The mask changes between the slot that fetches A and the word's last. */
  private static void firstMaskOfTheLastSlotCounts() {
    SlotBoard board = new SlotBoard();
    Boards.setFrom(board, 0, 65535, 65535, 65535);
    Boards.write(board, 20, 0x0ff0, 21, 65535, 10, A | D | 0xf0, 15, 50, 25, 0x31);
    threeSlotsThenWrite(board, 20, 0x00ff);
    check.due("word(50)", board.word(50), 0x0ff0);
    finish(board);
    check.due("word(51)", board.word(51), 0x00ff);
    check.due("word(52)", board.word(52), 0x00ff);
  }

  private static void pointersCountInEachSlot() {
    SlotBoard board = new SlotBoard();
    Boards.write(board, 24, 9, 10, D | 0xaa, 15, 254, 25, 0x15);
    threeSlotsThenWrite(board, 15, 70, 19, 30);
    check.due("word(254)", board.word(254), 9);
    check.due("word(255)", board.word(255), 9);
    check.due("word(0)", board.word(0), 9);
    finish(board);
    check.due("word(1)", board.word(1), 0);
    check.due("word(70)", board.word(70), 9);
    check.due("word(71)", board.word(71), 9);
    check.due("register(15)", board.register(15), 102);
  }

  private static void sizeCountsAtBegin() {
    SlotBoard board = new SlotBoard();
    Boards.write(board, 25, 0x33);
    Boards.write(board, 28, 0x11, 31, 0);
    check.due("slots", finish(board), 9);
  }

  private static void beginsAnewWhileBusy() {
    SlotBoard board = new SlotBoard();
    Boards.setFrom(board, 0, 1, 2, 3, 4, 5, 6, 7, 8);
    Boards.write(board, 20, 65535, 21, 65535, 10, 0x1000 | A | D | 0xf0, 15, 50, 25, 0x14);
    // Two slots a word: behind three, the second word has its A.
    threeSlotsThenWrite(board, 25, 0x12);
    check.due("look(3) begun anew", board.look(3), 1);
    check.due("register(12)", board.register(12), 2);
    check.due("slots", finish(board), 4);
    check.due("word(50)", board.word(50), 0);
    check.due("word(51), with nothing shifted in", board.word(51), 1);
    check.due("word(52)", board.word(52), 0x8002);
    check.due("word(53)", board.word(53), 0);
  }

  private static void beginsAnewWithTheFirstRow() {
    SlotBoard board = new SlotBoard();
    Boards.write(board, 10, D | 0xff, 25, 0x51);
    threeSlotsThenWrite(board, 27, 3, 25, 0x41);
    check.due("look(2)", board.look(2), 1);
    check.due("look(0)", board.look(0), 0);
    check.due("slots", finish(board), 4);
    check.due("register(15)", board.register(15), 7);
  }

  private static void stopsWhileMoverIsOff() {
    SlotBoard board = new SlotBoard();
    Boards.write(board, 10, D | 0xff, 15, 50, 25, 0x15);
    board.run(100);
    check.due("slots(4)", board.slots(4), 0);
    threeSlotsThenWrite(board);
    board.run(100);
    check.due("register(15)", board.register(15), 53);
    check.due("look(2)", board.look(2), 1);
    check.due("slots", finish(board), 2);
    check.due("register(15)", board.register(15), 55);
    board.run(100);
    check.due("slots(4)", board.slots(4), 5);
  }

  private static void endsWithARequest() {
    SlotBoard board = new SlotBoard();
    Boards.write(board, 27, 3, 10, A | D, 25, 0x12);
    board.access(2, 0, 4);
    board.run(1);
    for (int slot = 0; slot < 4; slot++) {
      check.due("look(2) before slot " + slot, board.look(2), 1);
      check.due("look(0) before slot " + slot, board.look(0), 0);
      board.run(1);
    }
    check.due("look(2) behind", board.look(2), 0);
    check.due("look(0) behind", board.look(0), 1);
    check.due("look(3) behind", board.look(3), 1);
  }

  private static void modulosOfUsedChannelsAlone() {
    for (int used = 0; used < 16; used++) {
      SlotBoard board = new SlotBoard();
      Boards.write(board, 12, 100, 13, 101, 14, 102, 15, 103, 16, 10, 17, 255, 18, 30, 19, 200);
      Boards.write(board, 10, used << 8, 25, 0x22);
      finish(board);
      int[] modulos = {10, 255, 30, 200};
      for (int channel = 0; channel < 4; channel++) {
        int grown = (used >> channel & 1) * (4 + 2 * modulos[channel]);
        check.due("pointer " + channel + " of channels " + used, board.register(12 + channel),
            100 + channel + grown & 255);
      }
    }
  }

  /** A and D are used in the row's first word, only B is in its last slot. */
  private static void modulosOfTheLastSlotCount() {
    SlotBoard board = new SlotBoard();
    Boards.write(board, 16, 10, 17, 20, 18, 30, 19, 40, 10, A | D, 25, 0x12);
    threeSlotsThenWrite(board, 10, B);
    check.due("slots", finish(board), 1);
    int[] due = {2, 21, 0, 1};
    for (int channel = 0; channel < 4; channel++) {
      check.due("pointer " + channel, board.register(12 + channel), due[channel]);
    }
  }

  private static void wordsBeforeGoOverRows() {
    SlotBoard board = new SlotBoard();
    Boards.setFrom(board, 0, 0x000f, 0x00f0);
    Boards.write(board, 20, 0x0003, 21, 65535, 10, 0x4000 | A | D | 0xf0, 15, 50, 25, 0x21);
    finish(board);
    check.due("word(50)", board.word(50), 0);
    check.due("word(51) has the masked word before", board.word(51), 0x3000);
    Boards.setFrom(board, 0, 0x000f, 0x00f0);
    Boards.write(board, 11, 4, 10, B | D | 0xcc, 15, 50, 25, 0x21);
    finish(board);
    check.due("word(50) of B", board.word(50), 0);
    check.due("word(51) of B without masks", board.word(51), 0xf00f);
  }

  private static void wordsBeforeAreZeroAtBegin() {
    SlotBoard board = new SlotBoard();
    Boards.write(board, 20, 65535, 21, 65535, 22, 65535, 23, 65535, 25, 0x11);
    finish(board);
    Boards.write(board, 10, 0x4000 | D | 0xf0, 15, 50, 25, 0x11);
    finish(board);
    check.due("word(50) of A", board.word(50), 0x0fff);
    Boards.write(board, 11, 8, 10, D | 0xcc, 15, 50, 25, 0x11);
    finish(board);
    check.due("word(50) of B", board.word(50), 0x00ff);
  }

  private static void zeroOfATermThatIsOneOutsideTheWord() {
    SlotBoard board = new SlotBoard();
    Boards.write(board, 10, 1, 24, 65535, 25, 0x11);
    finish(board);
    check.due("look(3)", board.look(3), 1);
  }
}
