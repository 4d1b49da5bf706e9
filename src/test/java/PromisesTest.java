import java.util.List;
import java.util.function.ToIntFunction;

/** The document's promises one by one: ordinary inputs, the edges that it names, wrong inputs. */
public final class PromisesTest {
  private static final int BAD = -1, NO = -2, FULL = -3, NONE = -4;
  private static int wrong = 0;

  public static void main(String[] args) {
    newObject();
    write();
    wipe();
    fault();
    lay();
    add();
    addByFewestMoves();
    drop();
    purge();
    pack();
    move();
    undo();
    rule();
    would();
    moved();
    slot();
    reach();
    meet();
    join();
    key();
    keys();
    count();
    refusedCallsChangeNothing();
    extremeNumbers();
    System.out.println(wrong == 0 ? "all promises are kept" : wrong + " answers are not as due");
    if (wrong != 0) System.exit(1);
  }

  private static void due(int promise, String call, int got, int want) {
    if (got == want) return;
    wrong++;
    System.out.println("promise " + promise + ": " + call + " answered " + got + ", due is " + want);
  }

  private static void write(ContentRows x, String text) {
    for (char c : text.toCharArray()) x.write(c);
  }

  private static ContentRows laid(String text) {
    ContentRows x = new ContentRows();
    write(x, text);
    x.lay();
    return x;
  }

  /** What can be seen of the rules, the table, the moves told and what can be undone. */
  private static String seen(ContentRows x) {
    StringBuilder seen = new StringBuilder();
    for (int r = 0; r < x.count(0); r++) {
      for (int what = 0; what < 5; what++) seen.append(x.rule(r, what)).append(' ');
      seen.append("/ ");
    }
    for (int s = 0; s < 16; s++) seen.append(x.slot(s, 0)).append(':').append(x.slot(s, 1)).append(' ');
    for (int i = -1; i < 4; i++) seen.append(x.moved(i, 0)).append('>').append(x.moved(i, 1)).append(' ');
    return seen.append(x.count(5)).append(' ').append(x.count(6)).toString();
  }

  private static void same(int promise, String what, String got, String want) {
    if (got.equals(want)) return;
    wrong++;
    System.out.println("promise " + promise + ": " + what + "\n  is  " + got + "\n  due " + want);
  }

  private static void newObject() {
    ContentRows x = new ContentRows();
    same(1, "a new object", seen(x), "10 120 3 12 1 / 20 222 0 7 2 / 5 12 6 6 3 / 30 122 8 15 4 / "
        + "2:0 0:0 0:1 0:2 0:3 1:0 3:0 -4:-4 -4:-4 -4:-4 -4:-4 -4:-4 -4:-4 -4:-4 -4:-4 -4:-4 "
        + "0>0 -4>-4 -4>-4 -4>-4 -4>-4 0 0");
    due(1, "wipe()", x.wipe(), 0);
    due(1, "undo()", x.undo(), NO);
    due(1, "lay() of the empty text", x.lay(), 0);
  }

  private static void write() {
    ContentRows x = new ContentRows();
    due(2, "write(31)", x.write(31), BAD);
    due(2, "write(127)", x.write(127), BAD);
    due(2, "write(-1)", x.write(-1), BAD);
    due(2, "write(256 + 65)", x.write(256 + 65), BAD);
    due(2, "write(32)", x.write(32), 1);
    due(2, "write(126)", x.write(126), 2);
    for (int i = 3; i <= 200; i++) due(2, "write(48)", x.write(48), i);
    due(2, "write(48), the 201st", x.write(48), FULL);
    due(2, "write(31), full", x.write(31), BAD);
    due(2, "count(6)", x.count(6), 200);
    x.wipe();
    due(2, "write(48), wiped", x.write(48), 1);
  }

  private static void wipe() {
    ContentRows x = new ContentRows();
    write(x, "1,***,0-15,1;");
    due(3, "wipe()", x.wipe(), 13);
    due(3, "wipe() again", x.wipe(), 0);
    due(3, "count(6)", x.count(6), 0);
    due(3, "fault()", x.fault(), NONE);
    due(3, "count(0)", x.count(0), 4);
    write(x, "2,***,0-15,1;");
    due(3, "lay() of what came behind it", x.lay(), 1);
    due(3, "rule(0, 0)", x.rule(0, 0), 2);
    x.wipe();
    write(x, "3,***,0-15,1");
    due(3, "fault(): what was wiped is not read", x.fault(), 0);
  }

  private static void faultOf(String text, int want) {
    ContentRows x = new ContentRows();
    write(x, text);
    due(4, "fault() of '" + text + "'", x.fault(), want);
    due(4, "fault() of '" + text + "' again", x.fault(), want);
    due(4, "lay() of '" + text + "'", x.lay() == NO ? 1 : 0, want == NONE ? 0 : 1);
  }

  private static void fault() {
    String[] whole = {"", "0,000,0-0,0;", "00,***,00-15,9;", "99,101,15-15,9;", "1,***,07-08,1;2,***,7-8,1;", "5,1*0,9-10,0;55,1*0,9-10,0;"};
    for (String text : whole) faultOf(text, NONE);
    String[] atOnce = {";", ",", " ", "*", "1", "1,", "1,***", "1,***,0-1,1", "100,***,0-1,1;", "000,***,0-1,1;", ",***,0-1,1;", "-1,***,0-1,1;",
        "1;***,0-1,1;", "1,**,0-1,1;", "1,****,0-1,1;", "1,*2*,0-1,1;", "1,* *,0-1,1;", "1,***;0-1,1;", "1,***,-1,1;", "1,***,0-,1;", "1,***,01,1;",
        "1,***,5-4,1;", "1,***,10-9,1;", "1,***,0-16,1;", "1,***,16-16,1;", "1,***,000-1,1;", "1,***,0-015,1;", "1,***,0-1;1;", "1,***,0-1,;",
        "1,***,0-1,a;", "1,***,0-1,10;", "1,***,0-1,1,", " 1,***,0-1,1;", "1 ,***,0-1,1;", "x,***,0-1,1;y"};
    for (String text : atOnce) faultOf(text, 0);
    String[] behind = {"1,***,0-1,1;;", "1,***,0-1,1; ", "1,***,0-1,1;1,000,2-3,4;", "1,***,0-1,1;01,000,2-3,4;", "1,***,0-1,1;2,***,0-1,1",
        "1,***,0-1,1;2,***,0-1,x;3"};
    for (String text : behind) faultOf(text, 12);
    faultOf("1,***,0-1,1;2,***,0-1,1;11,***,0-1,1;02,***,0-1,1;3,***,0-1,1;", 37);
    StringBuilder sixteen = new StringBuilder();
    for (int i = 0; i < 10; i++) sixteen.append(i).append(",***,0-0,0;");
    for (int i = 10; i < 16; i++) sixteen.append(i).append(",***,0-0,0;");
    faultOf(sixteen.toString(), NONE);
    faultOf(sixteen + "9", 198);
    faultOf(sixteen + "99", 198);
  }

  private static void lay() {
    ContentRows x = new ContentRows();
    x.add(50, 222, 0, 15, 1);
    x.add(4, 222, 0, 15, 1);
    write(x, "7,***,1-14,1;3,0**,2-2,2;");
    due(5, "lay()", x.lay(), 2);
    due(5, "count(6): the text stays", x.count(6), 25);
    due(5, "count(5)", x.count(5), 0);
    due(5, "undo()", x.undo(), NO);
    due(5, "moved(-1, 0)", x.moved(-1, 0), 0);
    due(5, "moved(0, 0)", x.moved(0, 0), NONE);
    due(5, "rule(0, 0)", x.rule(0, 0), 7);
    due(5, "slot(0, 0): by rank", x.slot(0, 0), 1);
    int[] signs = {220010, 2220001, 2220012, 2220122, 2221022, 2221102, 2221110, NONE};
    for (int s = 0; s < 8; s++) due(5, "slot(" + s + ", 2)", x.slot(s, 2), signs[s]);
    for (int s = 1; s < 7; s++) due(5, "slot(" + s + ", 1)", x.slot(s, 1), s - 1);

    x.add(99, 222, 0, 0, 0);
    x.wipe();
    write(x, "1,***,1-14,0;2,***,1-14,0;3,***,1-14,0;");
    String before = seen(x);
    due(5, "fault(), 18 rows", x.fault(), NONE);
    due(5, "lay(), 18 rows", x.lay(), NO);
    same(5, "behind a lay() that was refused", seen(x), before);
    x.wipe();
    write(x, "1,***,1-14,0;2,***,1-14,0;3,***,1-9,0;");
    due(5, "lay(), 16 rows", x.lay(), 3);
    due(5, "count(2)", x.count(2), 0);
    x.wipe();
    due(5, "lay() of no letters", x.lay(), 0);
    due(5, "count(2)", x.count(2), 16);
    due(5, "keys(0)", x.keys(0), 128);
    write(x, "1,***,0-1,1;1,***,0-1,1;");
    due(5, "lay() with a fault", x.lay(), NO);
    StringBuilder sixteen = new StringBuilder();
    for (int i = 15; i >= 0; i--) sixteen.append(i).append(",***,0-0,0;");
    x.wipe();
    write(x, sixteen.toString());
    due(5, "lay(), 16 rules", x.lay(), 16);
    due(5, "slot(0, 0)", x.slot(0, 0), 15);
    due(5, "slot(15, 0)", x.slot(15, 0), 0);
  }

  private static void add() {
    ContentRows x = new ContentRows();
    int[][] bad = {{-1, 0, 0, 0, 0}, {100, 0, 0, 0, 0}, {1, -1, 0, 0, 0}, {1, 3, 0, 0, 0}, {1, 30, 0, 0, 0}, {1, 130, 0, 0, 0}, {1, 203, 0, 0, 0},
        {1, 223, 0, 0, 0}, {1, 300, 0, 0, 0}, {1, 0, -1, 0, 0}, {1, 0, 0, 16, 0}, {1, 0, 16, 16, 0}, {1, 0, 5, 4, 0}, {1, 0, 0, 0, -1},
        {1, 0, 0, 0, 10}, {10, 0, 0, 0, 10}, {10, 0, 1, 0, 1}, {10, 9, 0, 0, 1}};
    for (int[] b : bad) due(6, "add(" + b[0] + ", " + b[1] + ", " + b[2] + ", " + b[3] + ", " + b[4] + ")", x.add(b[0], b[1], b[2], b[3], b[4]), BAD);
    due(6, "add() of a rank that is there", x.add(10, 0, 0, 0, 0), NO);
    due(6, "add(0, 0, 15, 15, 0)", x.add(0, 0, 15, 15, 0), 0);
    due(6, "add(99, 222, 15, 15, 9)", x.add(99, 222, 15, 15, 9), 0);
    due(6, "rule(4, 1)", x.rule(4, 1), 0);
    due(6, "rule(5, 0): numbered behind the others", x.rule(5, 0), 99);
    due(6, "rule(5, 1)", x.rule(5, 1), 222);
    due(6, "rule(5, 4)", x.rule(5, 4), 9);
    due(6, "slot(7, 0): the lowest slot", x.slot(7, 0), 4);
    due(6, "slot(8, 0)", x.slot(8, 0), 5);

    ContentRows full = laid("1,***,1-14,0;2,***,1-14,0;3,***,1-9,0;");
    due(6, "add() into a full table", full.add(50, 0, 0, 0, 0), FULL);
    due(6, "add() of a rank that is there, full", full.add(2, 0, 0, 0, 0), NO);
    due(6, "add() bad, full", full.add(2, 0, 0, 0, 10), BAD);
    full.drop(2);
    due(6, "add() of more rows than slots", full.add(60, 222, 1, 14, 0), FULL);
    due(6, "add() that fits", full.add(60, 222, 1, 9, 0), 0);
  }

  private static final String CHAIN = "10,***,0-15,1;20,***,0-15,2;30,***,0-15,3;40,***,0-15,4;50,***,0-15,5;";

  private static void movesAre(ContentRows x, int... moves) {
    due(14, "moved(-1, 0)", x.moved(-1, 0), moves.length / 2);
    for (int i = 0; i < moves.length / 2; i++) {
      due(14, "moved(" + i + ", 0)", x.moved(i, 0), moves[2 * i]);
      due(14, "moved(" + i + ", 1)", x.moved(i, 1), moves[2 * i + 1]);
    }
    due(14, "moved() behind the last", x.moved(moves.length / 2, 0), NONE);
  }

  private static void addByFewestMoves() {
    ContentRows x = laid(CHAIN);
    due(6, "add(55): no move", x.add(55, 222, 0, 15, 0), 0);
    due(6, "slot(5, 0)", x.slot(5, 0), 5);
    movesAre(x);

    x = laid(CHAIN);
    due(6, "add(45): one move", x.add(45, 222, 0, 15, 0), 1);
    movesAre(x, 4, 5);
    due(6, "slot(4, 0)", x.slot(4, 0), 5);

    x = laid(CHAIN);
    due(6, "add(25): three moves", x.add(25, 222, 0, 15, 0), 3);
    movesAre(x, 4, 5, 3, 4, 2, 3);
    due(6, "slot(2, 0)", x.slot(2, 0), 5);
    due(6, "keys(1)", x.keys(1), 0);

    x = laid(CHAIN);
    String before = seen(x);
    due(6, "add(15): four moves would be", x.add(15, 222, 0, 15, 0), FULL);
    due(6, "add(5): five moves would be", x.add(5, 222, 0, 15, 0), FULL);
    same(6, "behind an add() that was refused", seen(x), before);

    // Three moves are the most of each row, not of the rule.
    x = laid(CHAIN);
    due(6, "add(25) of two rows", x.add(25, 222, 7, 8, 0), 6);
    movesAre(x, 4, 5, 3, 4, 2, 3, 5, 6, 4, 5, 3, 4);
    due(6, "slot(2, 1)", x.slot(2, 1), 0);
    due(6, "slot(3, 1)", x.slot(3, 1), 1);
    due(6, "keys(1)", x.keys(1), 0);

    // The first of two rows comes in by a move, the other one would need five: all is as it was.
    x = laid("10,***,8-8,1;20,***,8-8,1;30,***,8-8,1;40,***,8-8,1;50,***,8-8,1;60,***,7-7,1;");
    before = seen(x);
    due(6, "would(5) of the first row alone", x.would(5, 0, 7, 7), 1);
    due(6, "add(5) of two rows, the first of which could come in", x.add(5, 0, 7, 8, 1), FULL);
    same(6, "behind it", seen(x), before);

    // Of several first moves: the lowest slot from which, then the lowest to which.
    x = laid("10,000,0-0,1;20,000,1-1,2;");
    due(6, "add(5) below both rows", x.add(5, 0, 0, 1, 3), 1);
    movesAre(x, 0, 2);
    due(6, "slot(0, 0): in the lowest slot", x.slot(0, 0), 2);
  }

  private static void drop() {
    ContentRows x = new ContentRows();
    due(7, "drop(-1)", x.drop(-1), BAD);
    due(7, "drop(4)", x.drop(4), BAD);
    due(7, "drop(0)", x.drop(0), 3);
    for (int s = 1; s < 5; s++) due(7, "slot(" + s + ", 0): its rows are gone", x.slot(s, 0), NONE);
    due(7, "slot(0, 0)", x.slot(0, 0), 1);
    due(7, "slot(5, 0): others stay, one number lower", x.slot(5, 0), 0);
    due(7, "slot(6, 0)", x.slot(6, 0), 2);
    due(7, "rule(0, 0)", x.rule(0, 0), 20);
    due(7, "drop(3)", x.drop(3), BAD);
    due(7, "drop(2)", x.drop(2), 2);
    due(7, "drop(0)", x.drop(0), 1);
    due(7, "drop(0)", x.drop(0), 0);
    due(7, "drop(0), none left", x.drop(0), BAD);
    due(7, "count(5)", x.count(5), 4);
    due(7, "undo()", x.undo(), 3);
    due(7, "rule(0, 0)", x.rule(0, 0), 5);
  }

  private static void purge() {
    ContentRows x = new ContentRows();
    due(8, "purge(), none is covered", x.purge(), 0);
    due(8, "count(5): no change", x.count(5), 0);
    // 30 is covered by 10 and 20 together, 40 by 30 (which goes itself), 50 is not.
    x = laid("40,000,4-5,1;10,000,0-7,1;30,000,3-12,2;50,00*,0-15,3;20,000,8-15,1;");
    due(8, "purge()", x.purge(), 2);
    due(8, "count(0)", x.count(0), 3);
    due(8, "rule(0, 0)", x.rule(0, 0), 10);
    due(8, "rule(1, 0)", x.rule(1, 0), 50);
    due(8, "rule(2, 0)", x.rule(2, 0), 20);
    due(8, "count(1)", x.count(1), 3);
    due(8, "slot(1, 0): rows stay where they are", x.slot(1, 0), 2);
    due(8, "slot(2, 0)", x.slot(2, 0), NONE);
    due(8, "slot(7, 0)", x.slot(7, 0), 1);
    due(8, "count(5): one change", x.count(5), 1);
    due(8, "purge() again", x.purge(), 0);
    due(8, "undo()", x.undo(), 0);
    due(8, "count(0)", x.count(0), 5);
  }

  private static void pack() {
    ContentRows x = new ContentRows();
    due(9, "pack(), nothing moves", x.pack(), 0);
    due(9, "count(5): no change", x.count(5), 0);
    x.drop(2);
    due(9, "pack() behind the first row gone", x.pack(), 6);
    due(9, "slot(0, 2)", x.slot(0, 2), 1200011);
    due(9, "slot(5, 0)", x.slot(5, 0), 2);
    due(9, "slot(6, 0)", x.slot(6, 0), NONE);
    due(9, "count(5)", x.count(5), 2);
    due(9, "undo()", x.undo(), 1);
    due(9, "slot(0, 0)", x.slot(0, 0), NONE);
    // Rows of one rule in other slots among themselves count, too.
    x = laid("1,***,7-8,1;");
    x.move(0, 2);
    due(9, "slot(1, 1)", x.slot(1, 1), 1);
    due(9, "move(2, 0)", x.move(2, 0), 1);
    x.move(0, 2);
    x.move(1, 0);
    x.move(2, 1);
    due(9, "pack() of two rows that changed places", x.pack(), 2);
    due(9, "slot(0, 1)", x.slot(0, 1), 0);
    // By the rank, not by the number.
    x = laid("9,000,0-0,1;8,111,1-1,1;");
    x.move(0, 2);
    due(9, "pack()", x.pack(), 1);
    due(9, "slot(0, 0)", x.slot(0, 0), 1);
    due(9, "slot(1, 0)", x.slot(1, 0), 0);
  }

  private static void move() {
    ContentRows x = new ContentRows();
    due(10, "move(-1, 7)", x.move(-1, 7), BAD);
    due(10, "move(16, 7)", x.move(16, 7), BAD);
    due(10, "move(0, -1)", x.move(0, -1), BAD);
    due(10, "move(8, 16)", x.move(8, 16), BAD);
    due(10, "move(8, 9), no row", x.move(8, 9), NO);
    due(10, "move(8, 8), no row", x.move(8, 8), NO);
    due(10, "move(0, 1), not empty", x.move(0, 1), NO);
    due(10, "move(6, 6), not empty", x.move(6, 6), NO);
    due(10, "move(0, 7), not in order", x.move(0, 7), NO);
    due(10, "count(5)", x.count(5), 0);
    // Slot 1 is 1*0,0011 and meets *** 0*** in slot 5 alone.
    due(10, "move(1, 7), not in order", x.move(1, 7), NO);
    due(10, "move(5, 15)", x.move(5, 15), 1);
    due(10, "move(1, 14)", x.move(1, 14), 4);
    due(10, "slot(14, 2)", x.slot(14, 2), 1200011);
    due(10, "slot(1, 0)", x.slot(1, 0), NONE);
    due(10, "move(14, 1)", x.move(14, 1), 4);
    due(10, "move(6, 7)", x.move(6, 7), 0);
    due(10, "count(5)", x.count(5), 4);
    due(10, "moved(-1, 0): not of moves by hand", x.moved(-1, 0), 0);
  }

  private static void undo() {
    ContentRows x = new ContentRows();
    due(11, "undo()", x.undo(), NO);
    String[] seen = new String[CHANGES.size()];
    int[] answers = {3, 0, 1, 0, 1, 2, 3};
    for (int i = 0; i < answers.length; i++) {
      seen[i] = tableOf(x);
      due(11, "change " + i, CHANGES.get(i).applyAsInt(x), answers[i]);
      due(11, "count(5) behind change " + i, x.count(5), Math.min(i + 1, 5));
    }
    for (int i = answers.length - 1; i >= answers.length - 5; i--) {
      due(11, "undo() of change " + i, x.undo(), i - answers.length + 5);
      same(11, "behind undo() of change " + i, tableOf(x), seen[i]);
    }
    due(11, "undo() of the sixth", x.undo(), NO);
    x.pack();
    write(x, "1,***,0-15,1;");
    due(11, "count(6): the text is not undone", x.count(6), 13);
    x.lay();
    due(11, "undo() behind lay()", x.undo(), NO);
    // What is undone is not to be had again; a new change comes behind what is left.
    x = new ContentRows();
    x.drop(0);
    x.drop(0);
    due(11, "undo()", x.undo(), 1);
    x.add(50, 222, 3, 3, 3);
    due(11, "undo()", x.undo(), 1);
    due(11, "undo()", x.undo(), 0);
    due(11, "count(0)", x.count(0), 4);
  }

  private static final List<ToIntFunction<ContentRows>> CHANGES = List.of(
      x -> x.drop(1),
      x -> x.add(15, 222, 0, 15, 7),
      x -> x.purge(),
      x -> x.move(5, 15),
      x -> x.pack(),
      x -> x.drop(0),
      x -> x.add(1, 222, 1, 14, 2));

  private static String tableOf(ContentRows x) {
    StringBuilder table = new StringBuilder();
    for (int r = 0; r < x.count(0); r++) table.append(x.rule(r, 0)).append(',').append(x.rule(r, 1)).append(' ');
    for (int s = 0; s < 16; s++) table.append(s).append(':').append(x.slot(s, 2)).append(' ');
    return table.toString();
  }

  private static void rule() {
    ContentRows x = laid("40,000,4-5,1;10,000,0-7,1;30,0*1,1-14,2;50,00*,0-15,3;20,***,8-15,2;");
    due(12, "rule(-1, 0)", x.rule(-1, 0), BAD);
    due(12, "rule(5, 0)", x.rule(5, 0), BAD);
    due(12, "rule(0, -1)", x.rule(0, -1), BAD);
    due(12, "rule(0, 10)", x.rule(0, 10), BAD);
    int[][] want = {{40, 0, 4, 5, 1, 1, 2, 0, 1, 1}, {10, 0, 0, 7, 1, 1, 8, 8, 0, 0}, {30, 21, 1, 14, 2, 6, 28, 14, 0, 0},
        {50, 2, 0, 15, 3, 1, 32, 1, 0, 0}, {20, 222, 8, 15, 2, 1, 64, 64, 0, 0}};
    for (int r = 0; r < 5; r++) {
      for (int what = 0; what < 10; what++) due(12, "rule(" + r + ", " + what + ")", x.rule(r, what), want[r][what]);
    }
    // Idle, but not covered: the one below gives the same answer; not where there would be none.
    x = laid("1,000,0-3,1;2,000,0-7,1;3,000,2-9,1;");
    int[][] idle = {{0, 1}, {0, 1}, {0, 0}};
    for (int r = 0; r < 3; r++) {
      due(12, "rule(" + r + ", 8)", x.rule(r, 8), idle[r][0]);
      due(12, "rule(" + r + ", 9)", x.rule(r, 9), idle[r][1]);
    }
    int[][] rows = {{0, 0, 1}, {0, 15, 1}, {1, 15, 4}, {0, 14, 4}, {1, 14, 6}, {3, 12, 4}, {7, 8, 2}, {8, 15, 1}, {4, 11, 2}, {2, 5, 2}, {5, 6, 2}};
    for (int[] span : rows) {
      ContentRows one = laid("");
      one.add(0, 0, span[0], span[1], 0);
      due(12, "rule(0, 5) of " + span[0] + " to " + span[1], one.rule(0, 5), span[2]);
    }
  }

  private static void would() {
    ContentRows x = laid(CHAIN);
    String before = seen(x);
    due(13, "would(-1, 0, 0, 0)", x.would(-1, 0, 0, 0), BAD);
    due(13, "would(100, 0, 0, 0)", x.would(100, 0, 0, 0), BAD);
    due(13, "would(1, 3, 0, 0)", x.would(1, 3, 0, 0), BAD);
    due(13, "would(1, 0, 1, 0)", x.would(1, 0, 1, 0), BAD);
    due(13, "would(1, 0, 0, 16)", x.would(1, 0, 0, 16), BAD);
    due(13, "would(10, 0, 0, 16): as add()", x.would(10, 0, 0, 16), BAD);
    due(13, "would(10, 0, 0, 0)", x.would(10, 0, 0, 0), NO);
    due(13, "would(55, 222, 0, 15)", x.would(55, 222, 0, 15), 0);
    due(13, "would(25, 222, 0, 15)", x.would(25, 222, 0, 15), 3);
    due(13, "would(15, 222, 0, 15)", x.would(15, 222, 0, 15), FULL);
    same(13, "behind would()", seen(x), before);
    x.add(45, 222, 0, 15, 0);
    x.would(25, 222, 0, 15);
    movesAre(x, 4, 5);
  }

  private static void moved() {
    ContentRows x = laid(CHAIN);
    due(14, "moved(-2, 0)", x.moved(-2, 0), BAD);
    due(14, "moved(0, -1)", x.moved(0, -1), BAD);
    due(14, "moved(0, 2)", x.moved(0, 2), BAD);
    due(14, "moved(-1, 1)", x.moved(-1, 1), 0);
    due(14, "moved(0, 0)", x.moved(0, 0), NONE);
    x.add(25, 222, 0, 15, 0);
    movesAre(x, 4, 5, 3, 4, 2, 3);
    x.undo();
    movesAre(x, 4, 5, 3, 4, 2, 3);
    x.add(15, 222, 0, 15, 0);
    x.add(10, 222, 0, 15, 0);
    x.add(1, 3, 0, 0, 0);
    movesAre(x, 4, 5, 3, 4, 2, 3);
    x.move(4, 15);
    x.pack();
    x.drop(0);
    x.purge();
    movesAre(x, 4, 5, 3, 4, 2, 3);
    x.add(99, 0, 0, 0, 0);
    movesAre(x);
    x.add(0, 222, 3, 3, 3);
    movesAre(x);
    x.add(1, 222, 3, 3, 3);
    movesAre(x, 2, 3, 1, 2);
    x.wipe();
    write(x, "x");
    x.lay();
    due(14, "moved(-1, 0) behind a lay() that was refused", x.moved(-1, 0), 2);
    x.wipe();
    x.lay();
    movesAre(x);
  }

  private static void slot() {
    ContentRows x = new ContentRows();
    due(15, "slot(-1, 0)", x.slot(-1, 0), BAD);
    due(15, "slot(16, 0)", x.slot(16, 0), BAD);
    due(15, "slot(0, -1)", x.slot(0, -1), BAD);
    due(15, "slot(0, 4)", x.slot(0, 4), BAD);
    due(15, "slot(15, 4), empty", x.slot(15, 4), BAD);
    for (int what = 0; what < 4; what++) due(15, "slot(15, " + what + ")", x.slot(15, what), NONE);
    due(15, "slot(3, 0)", x.slot(3, 0), 0);
    due(15, "slot(3, 1)", x.slot(3, 1), 2);
    due(15, "slot(3, 2)", x.slot(3, 2), 1201022);
    due(15, "slot(0, 2): no figures ahead", x.slot(0, 2), 120110);
    due(15, "slot(5, 3)", x.slot(5, 3), 52);
    x = laid("1,***,0-15,1;2,***,0-15,2;");
    due(15, "slot(0, 2)", x.slot(0, 2), 2222222);
    due(15, "slot(0, 3)", x.slot(0, 3), 128);
    due(15, "slot(1, 3)", x.slot(1, 3), 0);
    x = laid("1,000,0-0,1;");
    due(15, "slot(0, 2)", x.slot(0, 2), 0);
  }

  private static void reach() {
    ContentRows x = laid(CHAIN);
    due(16, "reach(-1, 0)", x.reach(-1, 0), BAD);
    due(16, "reach(16, 0)", x.reach(16, 0), BAD);
    due(16, "reach(0, -1)", x.reach(0, -1), BAD);
    due(16, "reach(0, 3)", x.reach(0, 3), BAD);
    due(16, "reach(9, 3), empty", x.reach(9, 3), BAD);
    for (int which = 0; which < 3; which++) due(16, "reach(9, " + which + ")", x.reach(9, which), NO);
    due(16, "reach(1, 0)", x.reach(1, 0), NONE);
    due(16, "reach(1, 1)", x.reach(1, 1), NONE);
    due(16, "reach(1, 2)", x.reach(1, 2), 0);
    due(16, "reach(4, 0)", x.reach(4, 0), 5);
    due(16, "reach(4, 1)", x.reach(4, 1), 15);
    due(16, "reach(4, 2)", x.reach(4, 2), 11);
    x.move(4, 9);
    x.move(3, 6);
    due(16, "reach(6, 0)", x.reach(6, 0), 3);
    due(16, "reach(6, 1)", x.reach(6, 1), 8);
    due(16, "reach(6, 2): not its own slot", x.reach(6, 2), 5);
  }

  private static void meet() {
    ContentRows x = new ContentRows();
    due(17, "meet(-1, 0)", x.meet(-1, 0), BAD);
    due(17, "meet(0, 16)", x.meet(0, 16), BAD);
    due(17, "meet(0, 0)", x.meet(0, 0), BAD);
    due(17, "meet(9, 9), empty", x.meet(9, 9), BAD);
    due(17, "meet(0, 9)", x.meet(0, 9), NO);
    due(17, "meet(9, 0)", x.meet(9, 0), NO);
    due(17, "meet(0, 5)", x.meet(0, 5), 1);
    due(17, "meet(5, 0)", x.meet(5, 0), 1);
    due(17, "meet(0, 6)", x.meet(0, 6), 0);
    due(17, "meet(1, 2): of one rule", x.meet(1, 2), 0);
    due(17, "meet(5, 6)", x.meet(5, 6), 0);
    due(17, "meet(3, 6)", x.meet(3, 6), 1);
  }

  private static void joins(String text, int a, int b, int want) {
    ContentRows x = laid(text);
    String before = seen(x);
    due(18, "join(" + a + ", " + b + ") of " + text, x.join(a, b), want);
    due(18, "join(" + b + ", " + a + ") of " + text, x.join(b, a), want);
    same(18, "behind join()", seen(x), before);
  }

  private static void join() {
    ContentRows x = new ContentRows();
    due(18, "join(-1, 0)", x.join(-1, 0), BAD);
    due(18, "join(0, 16)", x.join(0, 16), BAD);
    due(18, "join(0, 0)", x.join(0, 0), BAD);
    due(18, "join(9, 9)", x.join(9, 9), BAD);
    due(18, "join(0, 9)", x.join(0, 9), NO);
    due(18, "join(9, 0)", x.join(9, 0), NO);
    joins("1,000,0-0,1;2,000,1-1,1;", 0, 1, 2);
    joins("1,0*0,4-7,1;2,1*0,4-7,1;", 0, 1, 2);
    // Unlike answers; two signs; any in one; like signs.
    joins("1,000,0-0,1;2,000,1-1,2;", 0, 1, 0);
    joins("1,000,0-0,1;2,000,3-3,1;", 0, 1, 0);
    joins("1,000,0-0,1;2,000,0-1,1;", 0, 1, 0);
    joins("1,000,0-0,1;2,000,0-0,1;", 0, 1, 0);
    // Rows of unlike rules of one answer that are between do no harm, if the answer is the same.
    joins("1,000,0-0,1;2,000,0-15,1;3,000,1-1,1;", 0, 2, 2);
    // In the lower slot it would take the key from the row between; in the higher one it does not.
    joins("1,000,0-0,1;2,000,1-1,2;3,000,1-1,1;", 0, 2, 1);
    // In the higher slot the row between would take the other key as well.
    joins("1,000,0-0,1;2,000,0-1,2;3,000,1-1,1;", 0, 2, 0);
  }

  private static void keyIs(ContentRows x, int k, int... want) {
    for (int what = 0; what < 7; what++) due(19, "key(" + k + ", " + what + ")", x.key(k, what), want[what]);
  }

  private static void key() {
    ContentRows x = new ContentRows();
    due(19, "key(-1, 0)", x.key(-1, 0), BAD);
    due(19, "key(128, 0)", x.key(128, 0), BAD);
    due(19, "key(0, -1)", x.key(0, -1), BAD);
    due(19, "key(0, 7)", x.key(0, 7), BAD);
    keyIs(x, 0, 2, 2, 5, 1, 1, 1, 2);
    keyIs(x, 15, NONE, NONE, NONE, NONE, 0, 0, 2);
    keyIs(x, 127, 4, 4, 6, 3, 1, 1, 2);
    keyIs(x, 64 + 9, 1, 1, 3, 0, 2, 2, 3);
    keyIs(x, 32 + 6, 3, 3, 0, 2, 2, 2, 3);
    x.move(6, 12);
    keyIs(x, 127, 4, 4, 12, 3, 1, 1, 10);
    keyIs(laid(""), 127, NONE, NONE, NONE, NONE, 0, 0, 0);
  }

  private static void keys() {
    ContentRows x = new ContentRows();
    due(20, "keys(-1)", x.keys(-1), BAD);
    due(20, "keys(5)", x.keys(5), BAD);
    due(20, "keys(0)", x.keys(0), 32);
    due(20, "keys(1)", x.keys(1), 0);
    // Block 0 is on for the heads 01* and 1*0, block 1 for each.
    due(20, "keys(2)", x.keys(2), 4 * 16 + 8 * 16);
    due(20, "keys(3)", x.keys(3), 2);
    due(20, "keys(4)", x.keys(4), 4);
    x.add(1, 222, 0, 15, 1);
    due(20, "keys(0)", x.keys(0), 0);
    due(20, "keys(4)", x.keys(4), 1);
    x = laid("");
    int[] want = {128, 0, 0, 0, 0};
    for (int what = 0; what < 5; what++) due(20, "keys(" + what + ")", x.keys(what), want[what]);
    x = laid("1,***,0-15,1;");
    x.add(2, 0, 0, 0, 0);
    x.move(1, 15);
    due(20, "keys(2)", x.keys(2), 128 + 16);
    due(20, "keys(3)", x.keys(3), 2);
  }

  private static void countsAre(ContentRows x, int... want) {
    for (int what = 0; what < 9; what++) due(21, "count(" + what + ")", x.count(what), want[what]);
  }

  private static void count() {
    ContentRows x = new ContentRows();
    due(21, "count(-1)", x.count(-1), BAD);
    due(21, "count(9)", x.count(9), BAD);
    countsAre(x, 4, 7, 9, 0, 0, 0, 0, 5, 7);
    countsAre(laid(""), 0, 0, 16, 0, 0, 0, 0, 0, 0);
    // 20 is covered, 10 is idle since 20 and 30 answer alike, 30 is not; 20 is the row of 10 again.
    x = laid("10,000,0-3,1;20,000,0-3,1;30,000,0-7,1;");
    countsAre(x, 3, 3, 13, 1, 2, 0, 39, 3, 2);
    x.drop(2);
    countsAre(x, 2, 2, 14, 1, 2, 1, 39, 1, 1);
    x.drop(1);
    countsAre(x, 1, 1, 15, 0, 0, 2, 39, 0, 1);
  }

  /** A call that is refused, on a new object each time. */
  private static void refused(int promise, String name, int want, ToIntFunction<ContentRows> call) {
    ContentRows x = laid(CHAIN);
    x.add(25, 222, 0, 15, 0);
    x.move(5, 12);
    String before = seen(x);
    due(promise, name, call.applyAsInt(x), want);
    same(promise, "behind " + name, seen(x), before);
  }

  private static void refusedCallsChangeNothing() {
    refused(2, "write(0)", BAD, x -> x.write(0));
    refused(6, "add(100, 0, 0, 0, 0)", BAD, x -> x.add(100, 0, 0, 0, 0));
    refused(6, "add(25, 0, 0, 0, 0)", NO, x -> x.add(25, 0, 0, 0, 0));
    refused(6, "add(5, 222, 0, 15, 0)", FULL, x -> x.add(5, 222, 0, 15, 0));
    refused(6, "add(5, 222, 1, 14, 0)", FULL, x -> x.add(5, 222, 1, 14, 0));
    refused(7, "drop(6)", BAD, x -> x.drop(6));
    refused(10, "move(0, 5)", NO, x -> x.move(0, 5));
    refused(10, "move(0, 13)", NO, x -> x.move(0, 13));
    refused(10, "move(0, 16)", BAD, x -> x.move(0, 16));
    refused(13, "would(5, 222, 0, 15)", FULL, x -> x.would(5, 222, 0, 15));
    refused(13, "would(26, 222, 0, 15)", 2, x -> x.would(26, 222, 0, 15));
    refused(16, "reach(0, 0)", NONE, x -> x.reach(0, 0));
    refused(18, "join(0, 15)", NO, x -> x.join(0, 15));
  }

  /** No call throws, whatever the numbers are, and what the document has no such number for is BAD. */
  private static void extremeNumbers() {
    int[] some = {Integer.MIN_VALUE, Integer.MIN_VALUE + 1, -129, -17, -2, 128, 223, 256, 1 << 16, Integer.MAX_VALUE};
    ContentRows x = new ContentRows();
    for (int n : some) {
      if (n < 0 || n > 126) due(2, "write(" + n + ")", x.write(n), BAD);
      due(6, "add(" + n + ", 0, 0, 0, 0)", x.add(n, 0, 0, 0, 0), BAD);
      due(6, "add(1, " + n + ", 0, 0, 0)", x.add(1, n, 0, 0, 0), BAD);
      due(6, "add(1, 0, " + n + ", 3, 0)", x.add(1, 0, n, 3, 0), BAD);
      due(6, "add(1, 0, 0, " + n + ", 0)", x.add(1, 0, 0, n, 0), BAD);
      due(6, "add(1, 0, 0, 0, " + n + ")", x.add(1, 0, 0, 0, n), BAD);
      due(6, "add(1, 0, " + n + ", " + n + ", 0)", x.add(1, 0, n, n, 0), BAD);
      due(7, "drop(" + n + ")", x.drop(n), BAD);
      due(10, "move(" + n + ", 9)", x.move(n, 9), BAD);
      due(10, "move(0, " + n + ")", x.move(0, n), BAD);
      due(12, "rule(" + n + ", 0)", x.rule(n, 0), BAD);
      due(12, "rule(0, " + n + ")", x.rule(0, n), BAD);
      due(13, "would(1, " + n + ", 0, 0)", x.would(1, n, 0, 0), BAD);
      due(13, "would(1, 0, 0, " + n + ")", x.would(1, 0, 0, n), BAD);
      due(14, "moved(" + n + ", 0)", x.moved(n, 0), n < 0 ? BAD : NONE);
      due(14, "moved(0, " + n + ")", x.moved(0, n), BAD);
      due(15, "slot(" + n + ", 0)", x.slot(n, 0), BAD);
      due(15, "slot(0, " + n + ")", x.slot(0, n), BAD);
      due(16, "reach(" + n + ", 0)", x.reach(n, 0), BAD);
      due(16, "reach(0, " + n + ")", x.reach(0, n), BAD);
      due(17, "meet(" + n + ", 0)", x.meet(n, 0), BAD);
      due(17, "meet(0, " + n + ")", x.meet(0, n), BAD);
      due(18, "join(" + n + ", 0)", x.join(n, 0), BAD);
      due(18, "join(0, " + n + ")", x.join(0, n), BAD);
      due(19, "key(" + n + ", 0)", x.key(n, 0), BAD);
      due(19, "key(0, " + n + ")", x.key(0, n), BAD);
      due(20, "keys(" + n + ")", x.keys(n), BAD);
      due(21, "count(" + n + ")", x.count(n), BAD);
    }
    due(1, "count(5)", x.count(5), 0);
  }
}
