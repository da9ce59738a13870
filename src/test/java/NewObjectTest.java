/** Promise 1: a new object is all 0, before the first frame begins. */
public final class NewObjectTest {
  private static final Check check = new Check("NewObjectTest");

  public static void main(String[] args) {
    allIsZero();
    firstClockBeginsFrame();
    objectsShareNothing();
    check.end();
  }

  /** Each part asks an object of its own, so that none is asked more than 512 times. */
  private static void allIsZero() {
    SlotBoard board = new SlotBoard();
    check.due("place()", board.place(), 0);
    check.due("frames()", board.frames(), 0);
    for (int owner = 0; owner < 6; owner++) check.due("slots(" + owner + ")", board.slots(owner), 0);
    for (int what = 0; what < 9; what++) check.due("look(" + what + ")", board.look(what), 0);
    for (int r = 0; r < 28; r++) check.due("register(" + r + ")", board.register(r), 0);

    board = new SlotBoard();
    for (int a = 0; a < 256; a++) check.due("word(" + a + ")", board.word(a), 0);

    board = new SlotBoard();
    for (int x = 0; x < 32; x++) {
      for (int y = 0; y < 12; y++) check.due("point(" + x + ", " + y + ")", board.point(x, y), 0);
    }
  }

  private static void firstClockBeginsFrame() {
    SlotBoard board = new SlotBoard();
    board.run(1);
    check.due("frames() after a clock", board.frames(), 1);
    check.due("look(0) after a clock", board.look(0), 2);
    check.due("place() after a clock", board.place(), 1);
  }

  private static void objectsShareNothing() {
    SlotBoard used = new SlotBoard();
    for (int a = 0; a < 256; a++) used.set(a, 65535);
    Boards.write(used, 0, 7, 6, 1, 12, 5, 10, 0x0fff, 26, 3, 25, 0, 2, 0);
    used.access(Boards.LOAD, 0, 0);
    used.run(700);
    allIsZero();
  }
}
