/** Paragraph 5, and the list's part of 1 and 2: moves, waits and skips. */
public final class ListTest {
  private static final int START = 100;
  private static final Check check = new Check("ListTest");

  public static void main(String[] args) {
    stoppedUntilTheFrame();
    listSwitchedRoundTheFrame();
    startWrittenRoundTheFrame();
    frameWithoutListLeavesIt();
    frameWithoutListLeavesASkip();
    frameEndsAWaitForNoPlace();
    jumpWithoutList();
    jumpWhileWaiting();
    jumpInsideAnInstruction();
    jumpTakesWhatStartHas();
    movesToEachRegister();
    moveIsNotDoneToTheFirstThree();
    moveToTheEdgesOfTheRegisters();
    moveTakesFiveBits();
    waitsForItsPlace();
    waitForAPastPlace();
    waitInTheLastSlotOfAFrame();
    waitForTheNextClock();
    waitTakesTenBits();
    waitWhileListIsOff();
    waitWokenAtRefresh();
    skipLeavesTheNextMoveOut();
    skipLeavesNoWaitOut();
    skipTakesItsBitsAlone();
    skipInTheLastSlotOfAFrame();
    skipLeavesOneMoveOut();
    skipAfterSkip();
    skipAndJump();
    skipAndFrame();
    listKeepsItsPlaceWhileOff();
    addressesGoRound();
    instructionGoesRound();
    wordsCountWhenFetched();
    check.end();
  }

  private static int waitWord(int target) { return target << 3 | 1; }

  private static int moveWord(int register) { return register << 1; }

  /** A board whose list is at START with LIST on, the beam at the place given. */
  private static SlotBoard fetching(int place, int... words) {
    SlotBoard board = new SlotBoard();
    Boards.setFrom(board, START, words);
    Boards.write(board, 1, START, 0, 2);
    Boards.runTo(board, place - 1);
    board.access(2, 2, 0);
    board.run(1);
    check.due("look(8) at START", board.look(8), START);
    check.due("place()", board.place(), place);
    return board;
  }

  private static void stoppedUntilTheFrame() {
    SlotBoard board = new SlotBoard();
    Boards.setFrom(board, START, moveWord(7), 9, 0xffff, 0);
    Boards.write(board, 1, START, 0, 2);
    Boards.runTo(board, 0);
    check.due("look(7)", board.look(7), 0);
    check.due("slots(3)", board.slots(3), 0);
    board.run(7);
    check.due("register(7)", board.register(7), 9);
    check.due("slots(3)", board.slots(3), 2);
    Boards.runTo(board, 639);
    check.due("look(7) at the end", board.look(7), 2);
    check.due("look(8) at the end", board.look(8), START + 4);
    board.run(2);
    check.due("look(7) in a new frame", board.look(7), 1);
    check.due("look(8) in a new frame", board.look(8), START);
  }

  /** Switched in the last slot of a frame LIST counts at the next one's beginning, at clock 1 it does not. */
  private static void listSwitchedRoundTheFrame() {
    int[] places = {639, 1};
    for (int place : places) {
      SlotBoard board = new SlotBoard();
      Boards.write(board, 1, START);
      board.run(10);
      Boards.runTo(board, place);
      board.access(2, 0, 2);
      board.run(1);
      check.due("register(0)", board.register(0), 2);
      check.due("look(7) behind the write at " + place, board.look(7), 0);
      board.run(1);
      check.due("look(7), on at " + place, board.look(7), place == 639 ? 1 : 0);
      check.due("look(8), on at " + place, board.look(8), place == 639 ? START : 0);
      Boards.runTo(board, 20);
      check.due("look(7) at 20, on at " + place, board.look(7), place == 639 ? 1 : 0);
      Boards.runTo(board, 0);
      board.run(1);
      check.due("look(8) a frame later, on at " + place, board.look(8), START);

      board = fetching(40, moveWord(7), 9, 0xffff, 0);
      Boards.runTo(board, place);
      board.access(2, 0, 0);
      board.run(2);
      // Behind the write at clock 1 the list has gone on at START with the frame, but fetches nothing.
      check.due("look(7), off at " + place, board.look(7), place == 639 ? 2 : 1);
      check.due("look(8), off at " + place, board.look(8), place == 639 ? START + 4 : START);
      board.run(20);
      check.due("look(7) later, off at " + place, board.look(7), place == 639 ? 2 : 1);
    }
  }

  private static void startWrittenRoundTheFrame() {
    int[] places = {639, 1};
    for (int place : places) {
      SlotBoard board = new SlotBoard();
      Boards.write(board, 1, START, 0, 2);
      board.run(10);
      Boards.runTo(board, place);
      board.access(2, 1, 50);
      board.run(2);
      check.due("look(8), START written at " + place, board.look(8), place == 639 ? 50 : START);
    }
  }

  private static void frameWithoutListLeavesASkip() {
    SlotBoard board = fetching(40, waitWord(0), 1, moveWord(7), 9, moveWord(8), 10, 0xffff, 0);
    board.run(3);
    Boards.write(board, 0, 0);
    Boards.runTo(board, 0);
    board.run(41);
    Boards.write(board, 0, 2);
    board.run(12);
    check.due("register(7) left out", board.register(7), 0);
    check.due("register(8)", board.register(8), 10);
  }

  private static void frameEndsAWaitForNoPlace() {
    int[] targets = {639, 640, 1023};
    for (int target : targets) {
      SlotBoard board = fetching(40, waitWord(target), 0, moveWord(7), 9, 0xffff, 0);
      Boards.runTo(board, 639);
      check.due("look(7) at 639", board.look(7), 2);
      board.run(1);
      check.due("look(7) behind 639 for " + target, board.look(7), target == 639 ? 1 : 2);
      check.due("look(8) behind 639 for " + target, board.look(8), START + 2);
      board.run(1);
      check.due("look(7) in the frame", board.look(7), 1);
      check.due("look(8) in the frame", board.look(8), START);
    }
  }

  private static void frameWithoutListLeavesIt() {
    SlotBoard board = fetching(40, moveWord(7), 9, moveWord(7), 10, 0xffff, 0);
    Boards.runTo(board, 45);
    check.due("look(8)", board.look(8), START + 3);
    Boards.write(board, 0, 0);
    Boards.runTo(board, 0);
    board.run(10);
    check.due("look(7)", board.look(7), 1);
    check.due("look(8)", board.look(8), START + 3);
    check.due("register(7)", board.register(7), 9);
  }

  private static void jumpWithoutList() {
    SlotBoard board = new SlotBoard();
    Boards.setFrom(board, START, moveWord(7), 9, 0xffff, 0);
    Boards.write(board, 1, START, 2, 65535);
    check.due("look(7)", board.look(7), 1);
    check.due("look(8)", board.look(8), START);
    check.due("register(2)", board.register(2), 0);
    board.run(20);
    check.due("look(8) while LIST is 0", board.look(8), START);
    check.due("slots(3) while LIST is 0", board.slots(3), 0);
    Boards.write(board, 0, 2);
    board.run(12);
    check.due("register(7)", board.register(7), 9);
    check.due("slots(3)", board.slots(3), 4);
  }

  private static void jumpWhileWaiting() {
    SlotBoard board = fetching(40, waitWord(700), 0, moveWord(7), 9, 0xffff, 0);
    board.run(3);
    check.due("look(7) WAITING", board.look(7), 2);
    Boards.write(board, 1, START + 2, 2, 0);
    check.due("look(7) behind the JUMP", board.look(7), 1);
    check.due("look(8) behind the JUMP", board.look(8), START + 2);
    board.run(4);
    check.due("register(7)", board.register(7), 9);
  }

  private static void jumpInsideAnInstruction() {
    SlotBoard board = fetching(40, moveWord(7), moveWord(8), 0xffff, 0);
    board.run(1);
    check.due("look(8) behind the first word", board.look(8), START + 1);
    Boards.queue(board, 1, START + 1, 2, 0);
    board.run(1);
    check.due("look(8) at clock 9", board.look(8), START + 1);
    // Clock 10 is the list's: the MOVE ends before the JUMP comes at clock 11.
    board.run(2);
    check.due("register(7)", board.register(7), moveWord(8));
    check.due("look(8) behind the JUMP", board.look(8), START + 1);

    board = fetching(39, moveWord(7), moveWord(8), 0xfff, 0xffff, 0);
    Boards.write(board, 1, START + 1);
    Boards.runTo(board, 41);
    check.due("look(8) behind one word", board.look(8), START + 1);
    board.access(2, 2, 0);
    board.run(1);
    check.due("look(8) at START", board.look(8), START + 1);
    board.run(3);
    check.due("register(7) not moved to", board.register(7), 0);
    check.due("register(8) moved to", board.register(8), 0xfff);
  }

  private static void jumpTakesWhatStartHas() {
    SlotBoard board = new SlotBoard();
    Boards.write(board, 1, 300, 2, 77);
    check.due("look(8)", board.look(8), 44);
    Boards.write(board, 1, 50);
    check.due("look(8) behind START alone", board.look(8), 44);
  }

  private static void movesToEachRegister() {
    int[] counting = {4095, 65535, 15, 255, 65535, 3};
    int[] numbers = {6, 10, 11, 12, 24, 26};
    for (int i = 0; i < numbers.length; i++) {
      SlotBoard board = fetching(40, moveWord(numbers[i]), 65535, 0xffff, 0);
      board.run(3);
      check.due("register(" + numbers[i] + ")", board.register(numbers[i]), counting[i]);
    }
    SlotBoard board = fetching(40, moveWord(3), 33, moveWord(25), 0x22, moveWord(27), 2, 0xffff, 0);
    board.run(3);
    check.due("register(3)", board.register(3), 33);
    check.due("look(2) before SIZE", board.look(2), 0);
    board.run(4);
    check.due("look(2) behind SIZE", board.look(2), 1);
    check.due("look(0) before 27", board.look(0), 2);
    board.run(4);
    check.due("look(0) behind 27", board.look(0), 0);
  }

  private static void moveIsNotDoneToTheFirstThree() {
    SlotBoard board = fetching(40, moveWord(0), 15, moveWord(1), 7, moveWord(2), 1, moveWord(31), 5,
        moveWord(3), 6, 0xffff, 0);
    board.run(20);
    check.due("register(0)", board.register(0), 2);
    check.due("register(1)", board.register(1), START);
    check.due("register(3)", board.register(3), 6);
    check.due("look(8)", board.look(8), START + 10);
  }

  /** 2 is the last that a MOVE is not done to, 3 the first that it is; behind 27 there is nothing to write to. */
  private static void moveToTheEdgesOfTheRegisters() {
    SlotBoard board = fetching(40, moveWord(2), 5, moveWord(3), 6, moveWord(26), 1, moveWord(28), 7,
        moveWord(29), 8, moveWord(30), 9, moveWord(31), 10, waitWord(700), 0);
    Boards.runTo(board, 55);
    check.due("look(7)", board.look(7), 1);
    Boards.runTo(board, 140);
    check.due("look(7) at the end", board.look(7), 2);
    check.due("look(8) at the end", board.look(8), START + 16);
    check.due("slots(3)", board.slots(3), 16);
    for (int r = 0; r < 28; r++) {
      int due = r == 0 ? 2 : r == 1 ? START : r == 3 ? 6 : r == 26 ? 1 : 0;
      check.due("register(" + r + ")", board.register(r), due);
    }
  }

  private static void moveTakesFiveBits() {
    SlotBoard board = fetching(40, 0xffc0 | moveWord(7), 9, 0xffff, 0);
    board.run(3);
    check.due("register(7)", board.register(7), 9);
    board = fetching(40, 64, 13, 0xffff, 0);
    board.run(3);
    check.due("register(0)", board.register(0), 2);
  }

  private static void waitsForItsPlace() {
    for (int target = 60; target < 64; target++) {
      SlotBoard board = fetching(40, waitWord(target), 0, moveWord(7), 9, 0xffff, 0);
      board.run(3);
      check.due("look(7)", board.look(7), 2);
      check.due("look(8)", board.look(8), START + 2);
      Boards.runTo(board, target);
      check.due("look(7) before " + target, board.look(7), 2);
      board.run(1);
      check.due("look(7) behind " + target, board.look(7), 1);
      check.due("look(8) behind " + target, board.look(8), START + 2 + (target % 2 == 0 ? 1 : 0));
    }
  }

  /** It waits from its own slot to the next clock, at which the place is not below the target. */
  private static void waitForAPastPlace() {
    int[] targets = {0, 10, 42, 43};
    for (int target : targets) {
      SlotBoard board = fetching(40, waitWord(target), 0, moveWord(7), 9, 0xffff, 0);
      board.run(2);
      check.due("look(7) before the WAIT", board.look(7), 1);
      board.run(1);
      check.due("look(7) behind the WAIT for " + target, board.look(7), 2);
      board.run(1);
      check.due("look(7) a clock later", board.look(7), 1);
      check.due("look(8) a clock later", board.look(8), START + 2);
      board.run(1);
      check.due("look(8) two clocks later", board.look(8), START + 3);
    }
    SlotBoard board = fetching(40, waitWord(44), 0, moveWord(7), 9, 0xffff, 0);
    board.run(4);
    check.due("look(7) at 44", board.look(7), 2);
    board.run(1);
    check.due("look(7) behind 44", board.look(7), 1);
    check.due("look(8) behind 44", board.look(8), START + 3);
  }

  /** The WAIT is done at 638; only clock 639 is left of the frame. */
  private static void waitInTheLastSlotOfAFrame() {
    int[] targets = {0, 638, 639, 640, 1023};
    for (int target : targets) {
      SlotBoard board = fetching(636, waitWord(target), 0, moveWord(7), 9, 0xffff, 0);
      board.run(3);
      check.due("place()", board.place(), 639);
      check.due("look(7) behind 638", board.look(7), 2);
      board.run(1);
      check.due("look(7) behind 639 for " + target, board.look(7), target <= 639 ? 1 : 2);
      check.due("look(8) behind 639", board.look(8), START + 2);
    }
  }

  /** A WAIT done at 62 for 63: it is to FETCH at 63, an odd clock, and fetches behind the refresh. */
  private static void waitForTheNextClock() {
    SlotBoard board = fetching(60, waitWord(63), 0, moveWord(7), 9, 0xffff, 0);
    board.run(3);
    check.due("look(7) behind 62", board.look(7), 2);
    board.run(1);
    check.due("look(7) behind 63", board.look(7), 1);
    check.due("owners", Boards.owners(board, 7), "r-r-l-l");
  }

  private static void waitTakesTenBits() {
    SlotBoard board = fetching(40, 0xe000 | waitWord(60) | 6, 0xfffe, moveWord(7), 9, 0xffff, 0);
    Boards.runTo(board, 60);
    check.due("look(7) before 60", board.look(7), 2);
    board.run(1);
    check.due("look(7) behind 60", board.look(7), 1);

    int[] never = {640, 700, 1023};
    for (int target : never) {
      board = fetching(40, waitWord(target), 0, moveWord(7), 9, 0xffff, 0);
      Boards.runTo(board, 0);
      check.due("look(7) for " + target, board.look(7), 2);
    }
    board = fetching(40, waitWord(639), 0, moveWord(7), 9, 0xffff, 0);
    Boards.runTo(board, 639);
    check.due("look(7) before 639", board.look(7), 2);
    board.run(1);
    check.due("look(7) behind 639", board.look(7), 1);
  }

  private static void waitWhileListIsOff() {
    SlotBoard board = fetching(40, waitWord(60), 0, moveWord(7), 9, 0xffff, 0);
    board.run(3);
    Boards.write(board, 0, 0);
    Boards.runTo(board, 80);
    check.due("look(7) while LIST is 0", board.look(7), 2);
    board.access(2, 0, 2);
    board.run(1);
    check.due("look(7) at the write", board.look(7), 2);
    board.run(1);
    check.due("look(7) a clock later", board.look(7), 1);

    board = fetching(40, waitWord(60), 0, moveWord(7), 9, 0xffff, 0);
    board.run(3);
    Boards.write(board, 0, 0);
    Boards.runTo(board, 0);
    Boards.runTo(board, 20);
    check.due("look(7) in the next frame", board.look(7), 2);
    Boards.write(board, 0, 2);
    Boards.runTo(board, 60);
    check.due("look(7) before the target", board.look(7), 2);
    board.run(1);
    check.due("look(7) at the target", board.look(7), 1);
    check.due("look(8) at the target", board.look(8), START + 3);
  }

  private static void waitWokenAtRefresh() {
    SlotBoard board = fetching(40, waitWord(64), 0, moveWord(7), 9, 0xffff, 0);
    Boards.runTo(board, 64);
    check.due("look(7) before", board.look(7), 2);
    check.due("owners", Boards.owners(board, 7), "r-r-l-l");
    check.due("register(7)", board.register(7), 9);
  }

  /** The SKIP's second word comes at place 42. */
  private static void skipLeavesTheNextMoveOut() {
    int[] targets = {0, 41, 42, 43, 44, 639, 1023};
    for (int target : targets) {
      SlotBoard board = fetching(40, waitWord(target), 1, moveWord(7), 9, moveWord(8), 10, 0xffff, 0);
      board.run(3);
      check.due("look(7) behind the SKIP", board.look(7), 1);
      board.run(4);
      check.due("register(7) with target " + target, board.register(7), target <= 42 ? 0 : 9);
      check.due("look(8)", board.look(8), START + 4);
      board.run(4);
      check.due("register(8) with target " + target, board.register(8), 10);
      check.due("slots(3)", board.slots(3), 6);
    }
    SlotBoard board = fetching(40, waitWord(0), 0xffff, moveWord(25), 0x22, 0xffff, 0);
    board.run(7);
    check.due("look(2) of a SIZE left out", board.look(2), 0);
  }

  private static void skipLeavesNoWaitOut() {
    SlotBoard board = fetching(40, waitWord(0), 1, waitWord(60), 0, moveWord(7), 9, 0xffff, 0);
    Boards.runTo(board, 59);
    check.due("look(7)", board.look(7), 2);
    check.due("look(8)", board.look(8), START + 4);
    Boards.runTo(board, 63);
    check.due("register(7)", board.register(7), 9);
  }

  private static void skipTakesItsBitsAlone() {
    SlotBoard board = fetching(40, 0xe000 | waitWord(42) | 6, 0xffff, moveWord(7), 9, 0xffff, 0);
    board.run(7);
    check.due("register(7) left out", board.register(7), 0);
    board = fetching(40, 0xe000 | waitWord(43) | 6, 0xffff, moveWord(7), 9, 0xffff, 0);
    board.run(7);
    check.due("register(7) not left out", board.register(7), 9);
    board = fetching(40, waitWord(512), 1, moveWord(7), 9, 0xffff, 0);
    board.run(7);
    check.due("register(7) with the highest bit of a target", board.register(7), 9);
  }

  /** The SKIP is done at 638, and LIST is off at the frame, so the MOVE comes in the next one. */
  private static void skipInTheLastSlotOfAFrame() {
    int[] targets = {638, 639};
    for (int target : targets) {
      SlotBoard board = fetching(636, waitWord(target), 1, moveWord(7), 9, 0xffff, 0);
      board.run(3);
      board.access(2, 0, 0);
      board.run(11);
      check.due("look(8)", board.look(8), START + 2);
      Boards.write(board, 0, 2);
      board.run(6);
      check.due("register(7) for " + target, board.register(7), target == 638 ? 0 : 9);
    }
  }

  private static void skipLeavesOneMoveOut() {
    SlotBoard board = fetching(40, waitWord(0), 1, moveWord(2), 5, moveWord(7), 9, moveWord(8), 10, 0xffff, 0);
    board.run(20);
    check.due("register(7) behind a MOVE to 2 that is left out", board.register(7), 9);
    check.due("register(8)", board.register(8), 10);
    board = fetching(40, waitWord(0), 1, waitWord(46), 0, moveWord(7), 9, 0xffff, 0);
    board.run(20);
    check.due("register(7) behind a WAIT that is the next", board.register(7), 9);
  }

  private static void skipAfterSkip() {
    SlotBoard board = fetching(40, waitWord(0), 1, waitWord(700), 1, moveWord(7), 9, 0xffff, 0);
    board.run(11);
    check.due("register(7) behind a SKIP that does not", board.register(7), 9);
    board = fetching(40, waitWord(700), 1, waitWord(0), 1, moveWord(7), 9, moveWord(8), 10, 0xffff, 0);
    board.run(15);
    check.due("register(7) behind a SKIP that does", board.register(7), 0);
    check.due("register(8)", board.register(8), 10);
  }

  private static void skipAndJump() {
    SlotBoard board = fetching(40, waitWord(0), 1, moveWord(7), 9, 0xffff, 0);
    board.run(3);
    Boards.setFrom(board, START, moveWord(8), 10);
    board.access(2, 2, 0);
    board.run(1);
    check.due("look(8)", board.look(8), START);
    board.run(3);
    check.due("register(8)", board.register(8), 10);
  }

  private static void skipAndFrame() {
    // 636 and 638 bring the SKIP's words, then the frame begins.
    SlotBoard board = fetching(636, waitWord(0), 1, moveWord(7), 9, 0xffff, 0);
    board.run(4);
    check.due("look(8)", board.look(8), START + 2);
    check.due("place()", board.place(), 0);
    Boards.setFrom(board, START, moveWord(8), 10);
    board.run(7);
    check.due("register(8)", board.register(8), 10);

    board = fetching(638, moveWord(7), 9, 0xffff, 0);
    board.run(2);
    check.due("look(8) halfway", board.look(8), START + 1);
    board.run(7);
    check.due("register(7)", board.register(7), 9);
    check.due("look(8)", board.look(8), START + 2);
  }

  private static void listKeepsItsPlaceWhileOff() {
    SlotBoard board = fetching(40, moveWord(7), 9, 0xffff, 0);
    board.run(1);
    Boards.write(board, 0, 0);
    board.run(10);
    check.due("look(7)", board.look(7), 1);
    check.due("look(8)", board.look(8), START + 1);
    Boards.write(board, 0, 2);
    board.run(2);
    check.due("register(7)", board.register(7), 9);
  }

  private static void addressesGoRound() {
    SlotBoard board = new SlotBoard();
    Boards.setFrom(board, 253, moveWord(7), 9, moveWord(8), 10, moveWord(9), 11, 0xffff, 0);
    Boards.write(board, 1, 253, 0, 2, 2, 0);
    board.run(20);
    check.due("register(7)", board.register(7), 9);
    check.due("register(8)", board.register(8), 10);
    check.due("register(9)", board.register(9), 11);
    check.due("look(8)", board.look(8), 5);
  }

  /** The first word at 255, the second at 0. */
  private static void instructionGoesRound() {
    SlotBoard board = new SlotBoard();
    Boards.setFrom(board, 255, moveWord(7), 9, 0xffff, 0);
    Boards.write(board, 1, 255, 0, 2, 2, 0);
    Boards.runTo(board, 30);
    check.due("register(7)", board.register(7), 9);
    check.due("look(7)", board.look(7), 2);
    check.due("look(8)", board.look(8), 3);
  }

  private static void wordsCountWhenFetched() {
    SlotBoard board = fetching(40, moveWord(7), 9, 0xffff, 0);
    board.run(1);
    board.set(START, moveWord(8));
    board.set(START + 1, 12);
    board.run(2);
    check.due("register(7)", board.register(7), 12);
    check.due("register(8)", board.register(8), 0);
  }
}
