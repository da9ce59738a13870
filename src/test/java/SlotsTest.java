/** Promise 9, and paragraph 4: whose a slot is. */
public final class SlotsTest {
  private static final Check check = new Check("SlotsTest");

  public static void main(String[] args) {
    refusesWrongOwners();
    refreshHasTwoOfALine();
    planesHaveFourOnLinesOfThePicture();
    planesGoBeforeTheRest();
    listHasEvenClocks();
    processorGetsEachFourth();
    processorWithoutLossStartsAnew();
    planesDoNotBreakALoss();
    slotThatTheProcessorGetsEndsALoss();
    nothingElseEndsALoss();
    moverFirst();
    firstWithoutAMoverThatWants();
    moverTakesWhatTheProcessorLeaves();
    eachControlBitSwitchesItsOwn();
    lastClocksOfALine();
    allTogetherMakeAFrame();
    check.end();
  }

  private static void refusesWrongOwners() {
    SlotBoard board = new SlotBoard();
    board.run(10);
    int[] wrong = {-1, 6, 7, Integer.MIN_VALUE, Integer.MAX_VALUE};
    for (int owner : wrong) check.due("slots(" + owner + ")", board.slots(owner), -1);
  }

  private static void refreshHasTwoOfALine() {
    SlotBoard board = new SlotBoard();
    for (int i = 0; i < 8; i++) board.access(1, 0, 0);
    check.due("line 0", Boards.owners(board, 12), "rcrccccccc--");
    Boards.runTo(board, 32);
    check.due("line 1", Boards.owners(board, 4), "r-r-");
    check.due("slots(0)", board.slots(0), 24);
    check.due("slots(1)", board.slots(1), 4);
    check.due("slots(5)", board.slots(5), 8);
    Boards.runTo(board, 0);
    check.due("slots(1) of a frame", board.slots(1), 40);
  }

  private static void planesHaveFourOnLinesOfThePicture() {
    SlotBoard board = new SlotBoard();
    Boards.write(board, 0, 1);
    int[] lines = {3, 4, 15, 16};
    for (int line : lines) {
      Boards.runTo(board, Boards.place(line, 0));
      String due = line == 3 || line == 16 ? "r-r-----------------------------" : "r-r--------p---p---p---p--------";
      check.due("line " + line, Boards.owners(board, 32), due);
    }
    check.due("slots(2)", board.slots(2), 48);
  }

  private static void planesGoBeforeTheRest() {
    SlotBoard board = new SlotBoard();
    Boards.write(board, 0, 13, 10, 256);
    Boards.runTo(board, Boards.place(4, 0));
    Boards.write(board, 25, 0);
    Boards.runTo(board, Boards.place(4, 8));
    board.access(1, 0, 0);
    check.due("mover first", Boards.owners(board, 24), "mmmpmmmpmmmpmmmpmmmmmmmm");

    board = new SlotBoard();
    Boards.write(board, 0, 1);
    Boards.runTo(board, Boards.place(6, 10));
    for (int i = 0; i < 6; i++) board.access(1, 0, 0);
    check.due("processor", Boards.owners(board, 10), "cpcccpcc-p");
  }

  private static void listHasEvenClocks() {
    SlotBoard board = new SlotBoard();
    for (int a = 0; a < 256; a++) board.set(a, 60);
    Boards.queue(board, 0, 2, 2, 0);
    check.due("line 0", Boards.owners(board, 10), "rcrcl-l-l-");
    for (int i = 0; i < 4; i++) board.access(1, 0, 0);
    check.due("with the processor", Boards.owners(board, 10), "lclclclcl-");
    Boards.write(board, 10, 256, 0, 6, 25, 0);
    Boards.runTo(board, 32);
    board.access(1, 0, 0);
    check.due("with the mover too", Boards.owners(board, 14), "rmrmlmlclmlmlm");
  }

  /** Slots of others lie between, but do not count. */
  private static void processorGetsEachFourth() {
    SlotBoard board = new SlotBoard();
    Boards.write(board, 10, 256, 0, 4, 25, 0);
    Boards.runTo(board, 31);
    for (int i = 0; i < 4; i++) board.access(1, 0, 0);
    check.due("owners", Boards.owners(board, 20), "mrmrmcmmmcmmmcmmmcmm");
  }

  private static void processorWithoutLossStartsAnew() {
    SlotBoard board = new SlotBoard();
    Boards.write(board, 10, 256, 0, 4, 25, 0);
    Boards.runTo(board, 20);
    board.access(1, 0, 0);
    check.due("one access", Boards.owners(board, 6), "mmmcmm");
    board.access(1, 0, 0);
    check.due("another", Boards.owners(board, 5), "mmmcm");
  }

  private static void planesDoNotBreakALoss() {
    SlotBoard board = new SlotBoard();
    Boards.write(board, 10, 256, 0, 5);
    Boards.runTo(board, Boards.place(4, 8));
    Boards.write(board, 25, 0);
    for (int i = 0; i < 3; i++) board.access(1, 0, 0);
    check.due("owners from clock 9 on", Boards.owners(board, 16), "mmpmcmpmmcpmmmpc");
  }

  /**
   * The processor loses two slots, gets some while the mover has ended, and loses two more to the move
   * that the list begins: the first two count no more, so it gets none between these.
   */
  private static void slotThatTheProcessorGetsEndsALoss() {
    SlotBoard board = new SlotBoard();
    Boards.setFrom(board, 0, 25 << 1, 0x12, 29 << 1, 0, 25 << 1, 0x12, 0xffff, 0);
    Boards.write(board, 0, 6);
    Boards.runTo(board, 0);
    board.run(5);
    for (int i = 0; i < 8; i++) board.access(1, 0, 0);
    // The list's words come at clocks 4, 6, 8 and so on: it begins the mover at 6 and at 14.
    check.due("owners from clock 5 on", Boards.owners(board, 17), "clmlmlclclmlmlccc");
  }

  /** Neither an access that comes nor a move that begins anew is a slot that the processor got. */
  private static void nothingElseEndsALoss() {
    SlotBoard board = new SlotBoard();
    Boards.write(board, 10, 256, 0, 4, 25, 0);
    Boards.runTo(board, 20);
    board.access(1, 0, 0);
    check.due("two lost", Boards.owners(board, 2), "mm");
    board.access(1, 0, 0);
    check.due("with a second access", Boards.owners(board, 6), "mcmmmc");

    board = new SlotBoard();
    Boards.setFrom(board, 0, 25 << 1, 0, 25 << 1, 0, 0xffff, 0);
    Boards.write(board, 0, 6);
    Boards.runTo(board, 0);
    board.run(7);
    board.access(1, 0, 0);
    // The list has begun the mover at clock 6, and begins it anew at clock 10.
    check.due("owners from clock 7 on", Boards.owners(board, 8), "mlmlmlcl");
  }

  private static void moverFirst() {
    SlotBoard board = new SlotBoard();
    Boards.write(board, 10, 256, 0, 12);
    Boards.runTo(board, 10);
    Boards.queue(board, 25, 0x18, 26, 1, 26, 2);
    check.due("owners", Boards.owners(board, 14), "cmmmmmmmmcc---");
  }

  private static void firstWithoutAMoverThatWants() {
    SlotBoard board = new SlotBoard();
    Boards.write(board, 0, 8, 25, 0);
    Boards.runTo(board, 10);
    board.access(1, 0, 0);
    check.due("MOVER is 0", Boards.owners(board, 3), "c--");
    board = new SlotBoard();
    Boards.write(board, 0, 12);
    Boards.runTo(board, 10);
    board.access(1, 0, 0);
    check.due("not BUSY", Boards.owners(board, 3), "c--");
  }

  private static void moverTakesWhatTheProcessorLeaves() {
    SlotBoard board = new SlotBoard();
    Boards.write(board, 10, 256);
    Boards.runTo(board, 10);
    Boards.queue(board, 25, 0x13, 0, 4);
    check.due("mover off, then on", Boards.owners(board, 8), "ccmmm---");
  }

  /** Planes, list, mover and processor all could take slots of line 4: which do, CONTROL says. */
  private static void eachControlBitSwitchesItsOwn() {
    for (int control = 0; control < 16; control++) {
      SlotBoard board = new SlotBoard();
      for (int a = 0; a < 256; a++) board.set(a, 60);
      Boards.write(board, 2, 0, 25, 0);
      Boards.runTo(board, Boards.place(4, 9));
      board.access(2, 0, control);
      check.due("CONTROL " + control, Boards.owners(board, 15), ownersOf(control));
    }
    for (int control = 4; control < 8; control++) {
      check.due("FIRST is 0 in " + control, ownersWithAccess(control).indexOf('c') >= 0, true);
      check.due("FIRST is 1 in " + (8 | control), ownersWithAccess(8 | control).indexOf('c') >= 0, false);
    }
  }

  private static String ownersOf(int control) {
    StringBuilder due = new StringBuilder("c");
    for (int clock = 10; clock < 24; clock++) {
      boolean planes = (control & 1) != 0 && clock % 4 == 3;
      boolean list = (control & 2) != 0 && clock % 2 == 0;
      boolean mover = (control & 4) != 0;
      due.append(planes ? 'p' : list ? 'l' : mover ? 'm' : '-');
    }
    return due.toString();
  }

  private static String ownersWithAccess(int control) {
    SlotBoard board = new SlotBoard();
    Boards.write(board, 25, 0, 0, control);
    Boards.runTo(board, 10);
    board.access(1, 0, 0);
    return Boards.owners(board, 20);
  }

  /** The list fetches to clock 30, and then from clock 4 of the next line on, the first behind the last too. */
  private static void lastClocksOfALine() {
    SlotBoard board = new SlotBoard();
    for (int a = 0; a < 256; a++) board.set(a, 60);
    Boards.write(board, 0, 2, 2, 0);
    Boards.runTo(board, 28);
    check.due("from line 0 to line 1", Boards.owners(board, 10), "l-l-r-r-l-");
    Boards.runTo(board, 636);
    check.due("from line 19 to line 0", Boards.owners(board, 10), "l-l-r-r-l-");
    check.due("look(8) behind the frame's first fetch", board.look(8), 1);
  }

  private static void allTogetherMakeAFrame() {
    SlotBoard board = new SlotBoard();
    Boards.setFrom(board, 0, 14, 1, 0xffff, 0);
    Boards.write(board, 10, 256, 0, 7, 25, 0);
    board.access(0, 200, 1);
    Boards.runTo(board, 0);
    board.run(640);
    int sum = 0;
    for (int owner = 0; owner < 6; owner++) sum += board.slots(owner);
    check.due("all slots", sum, 1280);
    check.due("slots(1)", board.slots(1), 80);
    check.due("slots(2)", board.slots(2), 96);
    check.due("slots(3)", board.slots(3), 4);
    check.due("slots(4)", board.slots(4), 128);
    check.due("slots(5)", board.slots(5), 4);
    check.due("slots(0)", board.slots(0), 1280 - 80 - 96 - 4 - 128 - 4);
  }
}
