/** Promises 4, 7 and 8: run, place and frames. */
public final class RunTest {
  private static final Check check = new Check("RunTest");

  public static void main(String[] args) {
    refusesWrongNumbers();
    countsSlotsOfNone();
    countsOnlyItsOwn();
    longestRun();
    refusedRunBeginsNoFrame();
    longestLife();
    placeGoesOverTheFrame();
    framesBegin();
    check.end();
  }

  private static void refusesWrongNumbers() {
    SlotBoard board = new SlotBoard();
    board.run(5);
    board.access(0, 1, 9);
    int[] wrong = {0, -1, 701, 1000, Integer.MIN_VALUE, Integer.MAX_VALUE};
    for (int n : wrong) {
      check.due("run(" + n + ")", board.run(n), -1);
      check.due("place()", board.place(), 5);
      check.due("look(4)", board.look(4), 1);
      check.due("slots(0)", board.slots(0), 3);
    }
  }

  private static void countsSlotsOfNone() {
    SlotBoard board = new SlotBoard();
    check.due("run(1) at clock 0", board.run(1), 0);
    check.due("run(1) at clock 1", board.run(1), 1);
    check.due("run(1) at clock 2", board.run(1), 0);
    check.due("run(29)", board.run(29), 29);
    check.due("run(32)", board.run(32), 30);
    check.due("run(576)", board.run(576), 540);
    check.due("run(640)", board.run(640), 600);
  }

  private static void countsOnlyItsOwn() {
    SlotBoard board = new SlotBoard();
    for (int i = 0; i < 3; i++) board.access(1, i, 0);
    check.due("run(5)", board.run(5), 0);
    check.due("run(5)", board.run(5), 5);
    board.access(1, 0, 0);
    check.due("run(5)", board.run(5), 4);
    check.due("slots(0)", board.slots(0), 9);
  }

  private static void longestRun() {
    SlotBoard board = new SlotBoard();
    check.due("run(700)", board.run(700), 656);
    check.due("place()", board.place(), 60);
    check.due("frames()", board.frames(), 2);
    check.due("slots(1)", board.slots(1), 44);
  }

  private static void refusedRunBeginsNoFrame() {
    SlotBoard board = new SlotBoard();
    check.due("run(0)", board.run(0), -1);
    check.due("run(701)", board.run(701), -1);
    check.due("frames() behind refused runs", board.frames(), 0);
    check.due("look(0) behind refused runs", board.look(0), 0);
    check.due("place() behind refused runs", board.place(), 0);
    for (int owner = 0; owner < 6; owner++) check.due("slots(" + owner + ")", board.slots(owner), 0);
  }

  /** 512 calls, the most that an object is used for, 508 of them the longest run. */
  private static void longestLife() {
    SlotBoard board = new SlotBoard();
    int none = 0;
    for (int i = 0; i < 508; i++) none += board.run(700);
    int clocks = 508 * 700;
    check.due("place()", board.place(), clocks % 640);
    check.due("frames()", board.frames(), (clocks + 639) / 640);
    check.due("slots(0)", board.slots(0), none);
    check.due("slots(1)", board.slots(1), clocks - none);
  }

  private static void placeGoesOverTheFrame() {
    SlotBoard board = new SlotBoard();
    for (int clock = 0; clock < 40; clock++) {
      check.due("place()", board.place(), clock);
      board.run(1);
    }
    board.run(599);
    check.due("place() at the end", board.place(), 639);
    board.run(1);
    check.due("place() behind 639", board.place(), 0);
    board.run(640);
    check.due("place() a frame later", board.place(), 0);
    board.run(641);
    check.due("place() a frame and a clock later", board.place(), 1);
  }

  private static void framesBegin() {
    SlotBoard board = new SlotBoard();
    check.due("frames() at first", board.frames(), 0);
    board.run(1);
    check.due("frames() behind place 0", board.frames(), 1);
    board.run(639);
    check.due("frames() before place 0", board.frames(), 1);
    check.due("look(0)", board.look(0), 2);
    board.run(1);
    check.due("frames() behind place 0 again", board.frames(), 2);
    check.due("look(0), requested twice", board.look(0), 2);
    Boards.write(board, 27, 2);
    check.due("look(0) cleared", board.look(0), 0);
    Boards.runTo(board, 0);
    check.due("look(0) before the frame", board.look(0), 0);
    check.due("frames() before the frame", board.frames(), 2);
    board.run(1);
    check.due("look(0) in the frame", board.look(0), 2);
    check.due("frames() in the frame", board.frames(), 3);
  }
}
