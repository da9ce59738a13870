/** Ways to bring a board to where a test begins. */
final class Boards {
  static final int STORE = 0;
  static final int LOAD = 1;
  static final int WRITE = 2;

  static final int NONE = 0;
  static final int REFRESH = 1;
  static final int PLANES = 2;
  static final int LIST = 3;
  static final int MOVER = 4;
  static final int PROCESSOR = 5;

  private Boards() { }

  static int place(int line, int clock) { return 32 * line + clock; }

  /** Runs until the beam has come to the place; nothing if it is there. */
  static void runTo(SlotBoard board, int place) {
    int clocks = Math.floorMod(place - board.place(), 640);
    if (clocks > 0) board.run(clocks);
  }

  /** Writes pairs of a register and a word, and runs until the last is done. */
  static void write(SlotBoard board, int... pairs) {
    for (int i = 0; i < pairs.length; i += 2) {
      if (!board.access(WRITE, pairs[i], pairs[i + 1])) throw new IllegalStateException("queue is full");
      for (int clock = 0; board.look(4) > 0 && clock < 2000; clock++) board.run(1);
    }
  }

  /** Brings pairs into the queue without running. */
  static void queue(SlotBoard board, int... pairs) {
    for (int i = 0; i < pairs.length; i += 2) {
      if (!board.access(WRITE, pairs[i], pairs[i + 1])) throw new IllegalStateException("queue is full");
    }
  }

  static void setFrom(SlotBoard board, int address, int... words) {
    for (int i = 0; i < words.length; i++) board.set(address + i & 255, words[i]);
  }

  /** Which owner each of the next clocks' slots belongs to, one letter a clock ('-' for none). */
  static String owners(SlotBoard board, int clocks) {
    StringBuilder letters = new StringBuilder();
    int[] counts = new int[6];
    for (int owner = 1; owner < 6; owner++) counts[owner] = board.slots(owner);
    for (int i = 0; i < clocks; i++) {
      if (board.run(1) == 1) {
        letters.append('-');
        continue;
      }
      for (int owner = 1; owner < 6; owner++) {
        int count = board.slots(owner);
        if (count != counts[owner]) letters.append("-rplmc".charAt(owner));
        counts[owner] = count;
      }
    }
    return letters.toString();
  }
}
