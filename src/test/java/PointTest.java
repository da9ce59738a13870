/** Promise 6, and paragraphs 2 and 3: the picture. */
public final class PointTest {
  private static final Check check = new Check("PointTest");

  public static void main(String[] args) {
    refusesWrongPoints();
    firstAndLastPointsAreMade();
    colourOfTheClockCounts();
    pointsStay();
    planesMakeColours();
    planeThatCameLate();
    planeThatWentEarly();
    planesSwitchedOffBetweenWords();
    oneLineOnly();
    modulosOfBothAtTheLastFetch();
    basesCountAtTheFrame();
    basesWrittenRoundTheFrame();
    basesCountWhilePlanesIsOff();
    planesSwitchedAtEachClock();
    addressesOfPlanesGoRound();
    moduloGoesRound();
    moduloOfTheLastFetchCounts();
    coloursHaveTwelveBits();
    highestBitComesFirst();
    check.end();
  }

  private static void refusesWrongPoints() {
    SlotBoard board = new SlotBoard();
    Boards.write(board, 6, 5);
    board.run(640);
    int[][] wrong = {{-1, 0}, {32, 0}, {0, -1}, {0, 12}, {-1, -1}, {32, 12}, {33, 3}, {-1, 1}, {-32, 1},
      {Integer.MAX_VALUE, 0}, {Integer.MIN_VALUE, 0}, {0, Integer.MAX_VALUE}, {0, Integer.MIN_VALUE},
      {0, 1 << 27}, {64, -1}};
    for (int[] xy : wrong) check.due("point(" + xy[0] + ", " + xy[1] + ")", board.point(xy[0], xy[1]), -1);
    int[][] corners = {{0, 0}, {31, 0}, {0, 11}, {31, 11}};
    for (int[] xy : corners) check.due("point(" + xy[0] + ", " + xy[1] + ")", board.point(xy[0], xy[1]), 5);
  }

  private static void firstAndLastPointsAreMade() {
    SlotBoard board = new SlotBoard();
    Boards.write(board, 6, 0xfff);
    Boards.runTo(board, Boards.place(4, 16));
    check.due("point(0, 0) before", board.point(0, 0), 0);
    board.run(1);
    check.due("point(0, 0) behind line 4 clock 16", board.point(0, 0), 0xfff);
    check.due("point(1, 0) behind line 4 clock 16", board.point(1, 0), 0xfff);
    check.due("point(2, 0) behind line 4 clock 16", board.point(2, 0), 0);
    Boards.runTo(board, Boards.place(4, 31));
    check.due("point(29, 0)", board.point(29, 0), 0xfff);
    check.due("point(30, 0)", board.point(30, 0), 0);
    board.run(1);
    check.due("point(31, 0)", board.point(31, 0), 0xfff);
    Boards.runTo(board, Boards.place(5, 16));
    check.due("point(0, 1)", board.point(0, 1), 0);
    Boards.runTo(board, Boards.place(15, 31));
    check.due("point(29, 11)", board.point(29, 11), 0xfff);
    check.due("point(31, 11) before", board.point(31, 11), 0);
    board.run(1);
    check.due("point(30, 11)", board.point(30, 11), 0xfff);
    check.due("point(31, 11)", board.point(31, 11), 0xfff);
  }

  /** The picture comes before the slot, so a colour written at clock 16 counts from clock 17 on. */
  private static void colourOfTheClockCounts() {
    SlotBoard board = new SlotBoard();
    Boards.write(board, 6, 5);
    Boards.runTo(board, Boards.place(4, 16));
    board.access(2, 6, 9);
    board.run(2);
    check.due("point(0, 0)", board.point(0, 0), 5);
    check.due("point(1, 0)", board.point(1, 0), 5);
    check.due("point(2, 0)", board.point(2, 0), 9);
    check.due("point(3, 0)", board.point(3, 0), 9);
  }

  private static void pointsStay() {
    SlotBoard board = new SlotBoard();
    Boards.write(board, 6, 5);
    board.run(640);
    Boards.runTo(board, 0);
    Boards.write(board, 6, 6);
    check.due("point(9, 3) before it is made again", board.point(9, 3), 5);
    Boards.runTo(board, Boards.place(8, 0));
    check.due("point(9, 3) made again", board.point(9, 3), 6);
    check.due("point(9, 4) not yet", board.point(9, 4), 5);
  }

  private static void planesMakeColours() {
    for (int frame = 1; frame <= 2; frame++) {
      SlotBoard board = new SlotBoard();
      int[] words = new int[256];
      for (int a = 0; a < 256; a++) words[a] = a * 40503 + 12345 & 65535;
      Boards.setFrom(board, 0, words);
      Boards.queue(board, 3, 10, 4, 200, 5, 3, 6, 0x111, 7, 0x222, 8, 0x333, 9, 0x444);
      board.access(2, 0, 1);
      board.run(640);
      if (frame == 2) board.run(640);
      // The bases were written behind the beginning of the first frame, so it began at 0.
      int base0 = frame == 1 ? 0 : 10;
      int base1 = frame == 1 ? 0 : 200;
      for (int y = 0; y < 12; y += 1) {
        for (int x = y & 1; x < 32; x += 2) {
          int at = 5 * y + x / 16;
          int bit0 = words[base0 + at & 255] >> 15 - x % 16 & 1;
          int bit1 = words[base1 + at & 255] >> 15 - x % 16 & 1;
          check.due("frame " + frame + " point(" + x + ", " + y + ")", board.point(x, y),
              0x111 * (1 + bit0 + 2 * bit1));
        }
      }
      check.due("slots(2)", board.slots(2), 48 * frame);
    }
  }

  private static SlotBoard boardWithColours(int... more) {
    SlotBoard board = new SlotBoard();
    Boards.queue(board, 6, 1, 7, 2, 8, 3, 9, 4);
    Boards.queue(board, more);
    board.run(16);
    return board;
  }

  private static void dueLine(SlotBoard board, int y, int left, int right) {
    int[] xs = {0, 1, 7, 8, 15};
    for (int x : xs) {
      check.due("point(" + x + ", " + y + ")", board.point(x, y), left);
      check.due("point(" + (x + 16) + ", " + y + ")", board.point(x + 16, y), right);
    }
  }

  /** Switched on between clocks 11 and 15, plane 1 misses the first word and stays a word behind. */
  private static void planeThatCameLate() {
    SlotBoard board = boardWithColours(5, 10);
    board.set(0, 65535);
    board.set(12, 65535);
    Boards.runTo(board, Boards.place(4, 12));
    board.access(2, 0, 1);
    Boards.runTo(board, Boards.place(6, 0));
    dueLine(board, 0, 2, 3);
    // Line 5: plane 0 shows the words at 12 and 13, plane 1 those at 11 and 12.
    dueLine(board, 1, 2, 3);
  }

  private static void planeThatWentEarly() {
    SlotBoard board = boardWithColours(0, 1);
    for (int a = 0; a < 8; a++) board.set(a, 65535);
    Boards.runTo(board, Boards.place(4, 12));
    board.access(2, 0, 0);
    Boards.runTo(board, Boards.place(5, 0));
    dueLine(board, 0, 3, 1);
  }

  private static void planesSwitchedOffBetweenWords() {
    SlotBoard board = boardWithColours(0, 1, 5, 50);
    board.set(0, 65535);
    board.set(1, 0);
    board.set(2, 65535);
    Boards.runTo(board, Boards.place(4, 16));
    board.access(2, 0, 0);
    Boards.runTo(board, Boards.place(4, 24));
    board.access(2, 0, 1);
    Boards.runTo(board, Boards.place(6, 0));
    dueLine(board, 0, 4, 1);
    // No slot at clock 23 was theirs, so line 5 goes on at 1 without the modulo.
    dueLine(board, 1, 1, 4);
  }

  private static void oneLineOnly() {
    SlotBoard board = boardWithColours(0, 1);
    for (int a = 0; a < 8; a++) board.set(a, 65535);
    Boards.runTo(board, Boards.place(5, 0));
    board.access(2, 0, 0);
    Boards.runTo(board, Boards.place(7, 0));
    dueLine(board, 0, 4, 4);
    dueLine(board, 1, 1, 1);
    dueLine(board, 2, 1, 1);
  }

  /** On only at clock 23, where plane 0 fetches: still both places grow by the modulo. */
  private static void modulosOfBothAtTheLastFetch() {
    SlotBoard board = boardWithColours(5, 20);
    board.set(0, 65535);
    board.set(20, 65535);
    board.set(22, 65535);
    Boards.runTo(board, Boards.place(4, 21));
    board.access(2, 0, 1);
    Boards.runTo(board, Boards.place(6, 0));
    dueLine(board, 0, 1, 2);
    // Line 5: plane 0 at 21 and 22, plane 1 at 20 and 21.
    dueLine(board, 1, 3, 2);
  }

  private static void basesCountAtTheFrame() {
    SlotBoard board = boardWithColours(0, 1, 3, 100, 4, 255);
    board.set(100, 65535);
    board.set(0, 65535);
    board.set(255, 0);
    board.run(640);
    Boards.runTo(board, Boards.place(5, 0));
    // Plane 0 at 100 and 101, plane 1 at 255 and, behind the last address, 0.
    dueLine(board, 0, 2, 3);
  }

  /** A base written in the last slot of a frame counts in the next, one written at clock 1 does not. */
  private static void basesWrittenRoundTheFrame() {
    int[] places = {639, 1};
    for (int place : places) {
      SlotBoard board = boardWithColours(0, 1);
      board.set(100, 65535);
      Boards.runTo(board, place);
      check.due("place()", board.place(), place);
      board.access(2, 3, 100);
      board.run(1);
      check.due("register(3)", board.register(3), 100);
      Boards.runTo(board, Boards.place(5, 0));
      dueLine(board, 0, place == 639 ? 2 : 1, 1);
    }
  }

  private static void basesCountWhilePlanesIsOff() {
    SlotBoard board = boardWithColours(3, 100, 4, 200);
    board.set(101, 65535);
    board.set(200, 65535);
    Boards.runTo(board, 0);
    board.run(1);
    Boards.runTo(board, Boards.place(3, 31));
    Boards.write(board, 0, 1);
    Boards.runTo(board, Boards.place(5, 0));
    dueLine(board, 0, 3, 2);
  }

  /** Switched on in the slot of a clock, the planes have the fetches behind it; switched off, those before. */
  private static void planesSwitchedAtEachClock() {
    for (int clock = 9; clock <= 26; clock++) {
      SlotBoard board = boardWithColours();
      for (int a = 0; a < 4; a++) board.set(a, 65535);
      Boards.runTo(board, Boards.place(4, clock));
      board.access(2, 0, 1);
      Boards.runTo(board, Boards.place(5, 0));
      check.due("slots(2), on at " + clock, board.slots(2),
          oneIf(clock < 11) + oneIf(clock < 15) + oneIf(clock < 19) + oneIf(clock < 23));
      dueLine(board, 0, 1 + oneIf(clock < 15) + 2 * oneIf(clock < 11), 1 + oneIf(clock < 23) + 2 * oneIf(clock < 19));

      // Where the clock's slot is the planes', the write waits for the next.
      board = boardWithColours(0, 1);
      for (int a = 0; a < 4; a++) board.set(a, 65535);
      Boards.runTo(board, Boards.place(4, clock));
      board.access(2, 0, 0);
      Boards.runTo(board, Boards.place(5, 0));
      check.due("slots(2), off at " + clock, board.slots(2),
          oneIf(clock >= 11) + oneIf(clock >= 15) + oneIf(clock >= 19) + oneIf(clock >= 23));
      dueLine(board, 0, 1 + oneIf(clock >= 15) + 2 * oneIf(clock >= 11), 1 + oneIf(clock >= 23) + 2 * oneIf(clock >= 19));
    }
  }

  private static int oneIf(boolean condition) { return condition ? 1 : 0; }

  /** Each plane's place comes from 255 to 0 between the words of a line, and between lines. */
  private static void addressesOfPlanesGoRound() {
    for (int base = 253; base < 256; base++) {
      for (int plane = 0; plane < 2; plane++) {
        SlotBoard board = boardWithColours(0, 1, 3 + plane, base, 4 - plane, 100);
        board.set(0, 65535);
        board.run(640);
        Boards.runTo(board, Boards.place(6, 0));
        int one = 2 + plane;
        dueLine(board, 0, 1, base == 255 ? one : 1);
        dueLine(board, 1, base == 254 ? one : 1, base == 253 ? one : 1);
      }
    }
  }

  /** 254 takes both words back, so each line shows the same; 255 takes one back. */
  private static void moduloGoesRound() {
    SlotBoard board = boardWithColours(0, 1, 5, 254, 4, 100);
    board.set(0, 65535);
    board.set(101, 65535);
    board.run(640);
    Boards.runTo(board, 0);
    for (int y = 0; y < 12; y++) dueLine(board, y, 2, 3);

    board = boardWithColours(0, 1, 5, 255, 3, 254, 4, 100);
    board.set(0, 65535);
    board.set(1, 65535);
    board.run(640);
    Boards.runTo(board, 0);
    // Plane 0 at 254 and 255, 255 and 0, 0 and 1, 1 and 2, 2 and 3.
    dueLine(board, 0, 1, 1);
    dueLine(board, 1, 1, 2);
    dueLine(board, 2, 2, 2);
    dueLine(board, 3, 2, 1);
    dueLine(board, 4, 1, 1);
  }

  /** Written at clock 22 the MODULO counts on this line, at clock 24 it does not. */
  private static void moduloOfTheLastFetchCounts() {
    for (int clock = 22; clock <= 24; clock += 2) {
      SlotBoard board = boardWithColours(0, 1);
      board.set(12, 65535);
      Boards.runTo(board, Boards.place(4, clock));
      board.access(2, 5, 10);
      Boards.runTo(board, Boards.place(6, 0));
      check.due("register(5)", board.register(5), 10);
      dueLine(board, 0, 1, 1);
      dueLine(board, 1, clock == 22 ? 4 : 1, 1);
    }
  }

  private static void coloursHaveTwelveBits() {
    SlotBoard board = new SlotBoard();
    board.set(0, 0x8000);
    Boards.write(board, 0, 1, 6, 0xf123, 9, 0xffff);
    Boards.runTo(board, Boards.place(5, 0));
    check.due("point(0, 0)", board.point(0, 0), 0xfff);
    check.due("point(1, 0)", board.point(1, 0), 0x123);
  }

  private static void highestBitComesFirst() {
    SlotBoard board = boardWithColours(0, 1, 5, 254);
    board.set(0, 0x8001);
    Boards.runTo(board, Boards.place(5, 0));
    int[] xs = {0, 1, 14, 15, 16, 31};
    int[] due = {4, 1, 1, 4, 1, 1};
    for (int i = 0; i < xs.length; i++) check.due("point(" + xs[i] + ", 0)", board.point(xs[i], 0), due[i]);
  }
}
