/** Promise 10: what can be seen of the board. */
public final class LookTest {
  private static final Check check = new Check("LookTest");

  public static void main(String[] args) {
    refusesWrongNumbers();
    requestsComeAndGo();
    enabledRequests();
    moverIsBusy();
    requestsThatAreThereStay();
    queueAndLoads();
    loadedWordsAreWhole();
    listAndItsPlace();
    listsPlaceGoesRound();
    check.end();
  }

  private static void refusesWrongNumbers() {
    SlotBoard board = new SlotBoard();
    int[] wrong = {-1, 9, 10, Integer.MIN_VALUE, Integer.MAX_VALUE};
    for (int what : wrong) check.due("look(" + what + ")", board.look(what), -1);
  }

  private static void requestsComeAndGo() {
    SlotBoard board = new SlotBoard();
    Boards.write(board, 0, 4, 25, 0x11);
    check.due("look(0) before the mover ends", board.look(0), 2);
    board.run(1);
    check.due("look(0) behind the mover", board.look(0), 3);
    Boards.write(board, 27, 0);
    check.due("look(0) behind 0", board.look(0), 3);
    Boards.write(board, 27, 2);
    check.due("look(0) behind 2", board.look(0), 1);
    Boards.write(board, 27, 65534);
    check.due("look(0) behind 65534", board.look(0), 1);
    Boards.write(board, 27, 65535);
    check.due("look(0) behind 65535", board.look(0), 0);
    board.run(640);
    check.due("look(0) a frame later", board.look(0), 2);
    Boards.write(board, 27, 1);
    check.due("look(0) behind 1", board.look(0), 2);
  }

  private static void enabledRequests() {
    for (int enabled = 0; enabled < 4; enabled++) {
      for (int cleared = 0; cleared < 4; cleared++) {
        SlotBoard board = new SlotBoard();
        Boards.write(board, 0, 4, 25, 0x11);
        board.run(3);
        Boards.write(board, 26, enabled, 27, cleared);
        int requested = 3 & ~cleared;
        check.due("look(0)", board.look(0), requested);
        check.due("look(1) of " + enabled + " and " + requested, board.look(1),
            (requested & enabled) != 0 ? 1 : 0);
      }
    }
  }

  private static void moverIsBusy() {
    SlotBoard board = new SlotBoard();
    check.due("look(3) at first", board.look(3), 0);
    Boards.write(board, 25, 0x12);
    check.due("look(2) begun", board.look(2), 1);
    check.due("look(3) begun", board.look(3), 1);
    board.run(50);
    check.due("look(2) while MOVER is 0", board.look(2), 1);
    Boards.write(board, 10, 1, 0, 4);
    check.due("look(3) before a slot", board.look(3), 1);
    board.run(1);
    check.due("look(2) behind a word", board.look(2), 1);
    check.due("look(3) behind a word", board.look(3), 0);
    board.run(1);
    check.due("look(2) behind the last word", board.look(2), 0);
    check.due("look(3) behind the last word", board.look(3), 0);
  }

  /** A second frame and a second move request what is requested already. */
  private static void requestsThatAreThereStay() {
    SlotBoard board = new SlotBoard();
    Boards.write(board, 0, 4, 25, 0x11);
    board.run(1);
    check.due("look(0)", board.look(0), 3);
    Boards.write(board, 25, 0x11);
    check.due("look(0) while BUSY again", board.look(0), 3);
    board.run(1);
    check.due("look(2) behind a second move", board.look(2), 0);
    check.due("look(0) behind a second move", board.look(0), 3);
    board.run(640);
    check.due("frames()", board.frames(), 2);
    check.due("look(0) in a second frame", board.look(0), 3);
  }

  private static void loadedWordsAreWhole() {
    SlotBoard board = new SlotBoard();
    board.set(0, 65535);
    board.set(255, 0x8001);
    board.access(1, 0, 5);
    board.run(2);
    check.due("look(5) from 0", board.look(5), 65535);
    board.access(1, 255, 6);
    board.run(2);
    check.due("look(5) from 255", board.look(5), 0x8001);
    check.due("word(255)", board.word(255), 0x8001);
  }

  private static void queueAndLoads() {
    SlotBoard board = new SlotBoard();
    board.set(4, 44);
    board.set(5, 55);
    board.access(1, 4, 0);
    board.access(1, 5, 0);
    board.access(0, 4, 99);
    check.due("look(4)", board.look(4), 3);
    check.due("look(5)", board.look(5), 0);
    board.run(2);
    check.due("look(4) behind one", board.look(4), 2);
    check.due("look(5) behind one", board.look(5), 44);
    check.due("look(6) behind one", board.look(6), 1);
    board.run(2);
    check.due("look(5) behind two", board.look(5), 55);
    check.due("look(6) behind two", board.look(6), 2);
    board.run(1);
    check.due("look(4) behind three", board.look(4), 0);
    check.due("look(5) behind three", board.look(5), 55);
    check.due("look(6) behind three", board.look(6), 2);
    board.access(1, 255, 0);
    board.run(1);
    check.due("look(5) of a 0", board.look(5), 0);
    check.due("look(6) of a 0", board.look(6), 3);
  }

  private static void listAndItsPlace() {
    SlotBoard board = new SlotBoard();
    Boards.setFrom(board, 100, 14, 1, 0xffff, 0);
    Boards.write(board, 1, 100, 0, 2);
    check.due("look(7) STOPPED", board.look(7), 0);
    check.due("look(8) STOPPED", board.look(8), 0);
    Boards.runTo(board, 0);
    board.run(1);
    check.due("look(7) FETCH", board.look(7), 1);
    check.due("look(8) at START", board.look(8), 100);
    board.run(4);
    check.due("look(8) behind one fetch", board.look(8), 101);
    board.run(5);
    check.due("look(7) before the WAIT", board.look(7), 1);
    check.due("look(8) before the WAIT", board.look(8), 103);
    board.run(1);
    check.due("look(7) WAITING", board.look(7), 2);
    check.due("look(8) WAITING", board.look(8), 104);
  }

  private static void listsPlaceGoesRound() {
    SlotBoard board = new SlotBoard();
    Boards.write(board, 1, 255, 0, 2, 2, 0);
    Boards.runTo(board, 11);
    Boards.write(board, 2, 0);
    check.due("look(8) at START", board.look(8), 255);
    board.run(1);
    check.due("look(8) behind 255", board.look(8), 0);
    board.run(2);
    check.due("look(8) behind 0", board.look(8), 1);
  }
}
