import java.util.ArrayList;
import java.util.Arrays;
import java.util.List;
import java.util.regex.Matcher;
import java.util.regex.Pattern;

/**
 * The boundary cases of the document, sentence by sentence: the last number that is told and the first one
 * that is not, empty and full, what is refused and that nothing has changed behind it.
 *
 * A test is a row of calls on a new object, each with the answer that is due: "move(0,7)=NO". A number may be
 * a span, "slot(7..15,0)=NONE" is a call for each; "tell:" writes letters, "laid:" wipes, writes and lays.
 */
public final class EdgesTest {
  private static final int CALLS = 512;
  private static final Pattern CALL = Pattern.compile("(\\w+)\\(([-0-9,.]*)\\)(?:=(-?\\w+))?");
  private static final String CHAIN = "10,***,0-15,1;20,***,0-15,2;30,***,0-15,3;40,***,0-15,4;50,***,0-15,5;";
  /** Six rows, six rows, four rows: no slot is empty. */
  private static final String SIXTEEN_ROWS = "1,***,1-14,1;2,***,1-14,2;3,***,1-9,3;";
  private static int wrong = 0;
  private static final int PROMISES = 21;
  private static final int[] edgesOf = new int[PROMISES + 1];

  public static void main(String[] args) {
    keysOfTheDocument();
    callsOfAnObject();
    numbersOfARule();
    rulesByRank();
    rowsOfARule();
    slotsAndBlocks();
    textsOfRules();
    textsThatAreLaid();
    movesOfRows();
    rowsThatComeIn();
    ofSeveralMovesTheFirst();
    coveredAndIdle();
    whatIsUndone();
    newObject();
    write();
    wipe();
    fault();
    lay();
    add();
    drop();
    purge();
    pack();
    move();
    undo();
    rule();
    would();
    moved();
    slot();
    reach();
    meet();
    join();
    key();
    keys();
    count();
    emptyTable();
    fullTable();
    ofSeveralTheFirstTold();
    nothingChangesThen();
    askingChangesNothing();
    numbersFarOff();
    everyPromiseHasEdges();
    System.out.println(Arrays.stream(edgesOf).sum() + " edges, " + (wrong == 0 ? "all hold" : wrong + " do not hold"));
    if (wrong != 0) System.exit(1);
  }

  // ---- how a test is run

  /** An object in use: it counts its calls, since what comes behind the 512th is free. */
  private static final class Used {
    final ContentRows x = new ContentRows();
    int calls = 0;
    final List<String> answers = new ArrayList<>();
    final List<String> faults = new ArrayList<>();

    Used go(String row) {
      for (String word : row.trim().split("\\s+")) {
        if (word.startsWith("tell:")) tell(word.substring(5));
        else if (word.startsWith("laid:")) lay(word.substring(5));
        else if (!word.isEmpty()) callAll(word);
      }
      return this;
    }

    void tell(String letters) {
      for (char c : letters.toCharArray()) {
        x.write(c);
        calls++;
      }
    }

    void lay(String letters) {
      x.wipe();
      tell(letters);
      if (x.lay() < 0) faults.add("'" + letters + "' is not laid");
      calls += 2;
    }

    void callAll(String word) {
      Matcher m = CALL.matcher(word);
      if (!m.matches()) throw new IllegalArgumentException("no call: " + word);
      String[] spans = m.group(2).isEmpty() ? new String[0] : m.group(2).split(",");
      callEach(m.group(1), spans, new int[spans.length], 0, m.group(3));
    }

    void callEach(String name, String[] spans, int[] numbers, int i, String due) {
      if (i == spans.length) {
        callOne(name, numbers, due);
        return;
      }
      String[] ends = spans[i].split("\\.\\.");
      for (long n = Long.parseLong(ends[0]); n <= Long.parseLong(ends[ends.length - 1]); n++) {
        numbers[i] = (int) n;
        callEach(name, spans, numbers, i + 1, due);
      }
    }

    void callOne(String name, int[] n, String due) {
      int got = answer(x, name, n);
      calls++;
      StringBuilder call = new StringBuilder(name).append('(');
      for (int i = 0; i < n.length; i++) call.append(i == 0 ? "" : ", ").append(n[i]);
      call.append(')');
      answers.add(call + " = " + got);
      if (due != null && got != number(due)) faults.add(call + " answered " + got + ", due is " + number(due));
      if (calls > CALLS) faults.add("the test makes more than " + CALLS + " calls");
    }
  }

  private static int number(String word) {
    switch (word) {
      case "BAD": return -1;
      case "NO": return -2;
      case "FULL": return -3;
      case "NONE": return -4;
      default: return Integer.parseInt(word);
    }
  }

  private static int answer(ContentRows x, String name, int[] n) {
    switch (name + n.length) {
      case "write1": return x.write(n[0]);
      case "wipe0": return x.wipe();
      case "fault0": return x.fault();
      case "lay0": return x.lay();
      case "add5": return x.add(n[0], n[1], n[2], n[3], n[4]);
      case "drop1": return x.drop(n[0]);
      case "purge0": return x.purge();
      case "pack0": return x.pack();
      case "move2": return x.move(n[0], n[1]);
      case "undo0": return x.undo();
      case "rule2": return x.rule(n[0], n[1]);
      case "would4": return x.would(n[0], n[1], n[2], n[3]);
      case "moved2": return x.moved(n[0], n[1]);
      case "slot2": return x.slot(n[0], n[1]);
      case "reach2": return x.reach(n[0], n[1]);
      case "meet2": return x.meet(n[0], n[1]);
      case "join2": return x.join(n[0], n[1]);
      case "key2": return x.key(n[0], n[1]);
      case "keys1": return x.keys(n[0]);
      case "count1": return x.count(n[0]);
      default: throw new IllegalArgumentException("no such call: " + name);
    }
  }

  private static void tellFaults(int promise, String sentence, List<String> faults) {
    edgesOf[promise]++;
    if (faults.isEmpty()) return;
    wrong++;
    System.out.println("promise " + promise + ", \"" + sentence + "\"");
    for (String f : faults.subList(0, Math.min(faults.size(), 5))) System.out.println("    " + f);
  }

  private static void everyPromiseHasEdges() {
    for (int promise = 1; promise <= PROMISES; promise++) {
      if (edgesOf[promise] > 0) continue;
      wrong++;
      System.out.println("promise " + promise + " has no edge");
    }
  }

  /** A sentence of the document, and calls on a new object. */
  private static void edge(int promise, String sentence, String... rows) {
    tellFaults(promise, sentence, new Used().go(String.join(" ", rows)).faults);
  }

  /** All that can be asked, in parts that stay below the calls of an object. */
  private static final String[] VIEWS = {
      "rule(0..16,0..9) count(0..8) keys(0..4) moved(-1..18,0..1) fault()",
      "slot(0..15,0..3) reach(0..15,0..2) key(0..127,6)",
      "meet(0..15,0..15)",
      "join(0..15,0..15)",
      "key(0..127,0..2)",
      "key(0..127,3..5)",
      "undo() slot(0..15,0..1) rule(0..15,0) ".repeat(6) + "undo()",
      "fault() lay() slot(0..15,0..1) rule(0..15,0..4) wipe()",
      "write(48) count(6) fault() wipe()",
      "add(77,222,0,0,7) moved(-1..4,0) slot(0..15,0) undo() slot(0..15,0) pack() slot(0..15,0) undo() purge() undo() drop(0) undo() undo()"};

  /** A call that leaves all as it was: all answers behind it are those of an object without it. */
  private static void leavesAll(int promise, String sentence, String before, String call) {
    List<String> faults = new ArrayList<>();
    for (String view : VIEWS) {
      Used without = new Used().go(before);
      Used with = new Used().go(before).go(call);
      faults.addAll(with.faults);
      without.answers.clear();
      with.answers.clear();
      without.go(view);
      with.go(view);
      for (int i = 0; i < without.answers.size(); i++) {
        if (!with.answers.get(i).equals(without.answers.get(i))) {
          faults.add("behind " + call + ": " + with.answers.get(i) + ", it was " + without.answers.get(i));
          break;
        }
      }
      if (with.calls > CALLS) faults.add("the test makes more than " + CALLS + " calls");
      if (!faults.isEmpty()) break;
    }
    tellFaults(promise, sentence, faults);
  }

  // ---- What it is

  private static void keysOfTheDocument() {
    edge(19, "A KEY is 0 to 127", "key(-1,0..6)=BAD key(128,0..6)=BAD key(0,5)=1 key(127,5)=1");
    edge(19, "its HEAD is the KEY by 16, cut (three bits)", "laid:1,000,0-15,1;2,001,0-15,2;3,111,0-15,3;",
        "key(0..15,0)=1 key(16..31,0)=2 key(32..111,0)=NONE key(112..127,0)=3");
    edge(19, "its TAIL the KEY modulo 16 (four bits)", "laid:1,***,15-15,1;2,***,0-0,2;",
        "key(0,0)=2 key(1..14,0)=NONE key(15,0)=1 key(16,0)=2 key(17,0)=NONE key(111,0)=1 key(112,0)=2 key(126,0)=NONE key(127,0)=1");
    edge(20, "Of all KEYS", "laid:1,000,0-0,1; keys(0)=127 wipe() laid:1,111,15-15,1; keys(0)=127 laid:1,***,0-15,1; keys(0)=0");
  }

  private static void callsOfAnObject() {
    edge(11, "An object is used for at most 512 calls after it has been made", "move(6,15)=0 move(15,6)=0 ".repeat(255), "count(5)=5 undo()=4");
    edge(2, "An object is used for at most 512 calls after it has been made", "write(48) ".repeat(200), "write(48)=FULL ".repeat(311),
        "count(6)=200");
    edge(6, "An object is used for at most 512 calls after it has been made",
        "laid:" + CHAIN, "add(25,222,0,15,0)=3 undo()=0 ".repeat(216), "add(25,222,7,8,0)=6 moved(-1,0)=6 moved(5,0)=3 moved(5,1)=4 moved(6,0)=NONE");
    edge(6, "An object is used for at most 512 calls after it has been made", "add(50,0,0,0,1)=0 drop(4)=4 ".repeat(255), "count(5)=5 count(0)=4");
    edge(13, "An object is used for at most 512 calls after it has been made", "laid:" + CHAIN,
        "would(15,222,0,15)=FULL would(25,222,0,15)=3 ".repeat(219), "would(15,222,0,15)=FULL count(1)=5");
    edge(5, "An object is used for at most 512 calls after it has been made", "tell:" + SIXTEEN_ROWS, "lay()=3 ".repeat(473), "count(2)=0");
  }

  // ---- Terms

  private static void numbersOfARule() {
    edge(6, "A RULE has a RANK (0 to 99", "add(-1,0,0,0,0)=BAD add(100,0,0,0,0)=BAD add(0,0,15,15,0)=0 add(99,0,0,0,0)=0 rule(4,0)=0 rule(5,0)=99");
    edge(13, "A RULE has a RANK (0 to 99", "would(-1,0,0,0)=BAD would(100,0,0,0)=BAD would(0,0,15,15)=0 would(99,0,15,15)=0");
    edge(4, "A RULE has a RANK (0 to 99", "tell:99,000,0-0,0;0,000,0-0,0; fault()=NONE tell:100,000,0-0,0; fault()=25 lay()=NO");
    edge(6, "of no other one", "add(5,0,0,0,0)=NO add(10,0,0,0,0)=NO add(20,0,0,0,0)=NO add(30,0,0,0,0)=NO",
        "add(4,0,15,15,0)=0 add(6,0,15,15,0)=0 add(4,0,14,14,0)=NO add(6,0,14,14,0)=NO");
    edge(6, "of no other one", "drop(2)=3 add(5,0,0,0,0)=0 add(5,0,1,1,0)=NO undo()=1 add(5,0,1,1,0)=0");
    everyHead();
    edge(12, "the highest bit first", "laid:1,100,0-0,1;2,010,0-0,2;3,001,0-0,3; key(64,3)=0 key(32,3)=1 key(16,3)=2 keys(0)=125",
        "rule(0,1)=100 rule(1,1)=10 rule(2,1)=1");
    edge(6, "a SPAN of TAILS from a number to another one (0 to 15", "lay()=0 add(1,0,-1,0,0)=BAD add(1,0,-1,15,0)=BAD add(1,0,0,16,0)=BAD",
        "add(1,0,15,16,0)=BAD add(1,0,16,16,0)=BAD add(1,0,-1,-1,0)=BAD add(1,0,0,0,0)=0 add(2,1,15,15,0)=0 add(3,111,0,15,0)=0",
        "rule(0,2..3)=0 rule(1,2..3)=15 rule(2,2)=0 rule(2,3)=15");
    edge(13, "a SPAN of TAILS from a number to another one (0 to 15", "would(1,0,-1,0)=BAD would(1,0,0,16)=BAD would(1,0,15,16)=BAD",
        "would(1,0,16,16)=BAD would(99,0,0,0)=0 would(1,0,15,15)=0 would(99,0,0,15)=0");
    edge(6, "the first no more", "add(1,0,8,7,0)=BAD add(1,0,1,0,0)=BAD add(1,0,15,14,0)=BAD add(1,0,15,0,0)=BAD add(1,0,8,8,0)=0");
    edge(13, "the first no more", "would(1,0,8,7)=BAD would(1,0,1,0)=BAD would(1,0,15,14)=BAD would(1,0,8,8)=0");
    edge(4, "the first no more", "tell:1,000,8-8,0; fault()=NONE tell:2,000,8-7,0; fault()=12");
    edge(6, "an ANSWER (0 to 9)", "lay()=0 add(1,0,0,0,-1)=BAD add(1,0,0,0,10)=BAD add(1,0,0,0,0)=0 add(2,1,15,15,9)=0 rule(0,4)=0 rule(1,4)=9",
        "key(31,0)=9 key(0,0)=0");
  }

  /** Each number up to one above the last head, and some that begin as heads do. */
  private static void everyHead() {
    List<String> faults = new ArrayList<>();
    for (int head = -1; head <= 223; head++) {
      boolean isHead = head >= 0 && String.valueOf(head).matches("[012]{1,3}");
      Used u = new Used().go("would(99," + head + ",15,15)=" + (isHead ? "0" : "BAD") + " add(99," + head + ",15,15,0)=" + (isHead ? "0" : "BAD"));
      if (isHead) u.go("rule(4,1)=" + head);
      faults.addAll(u.faults);
    }
    for (int head : new int[] {-222, -2, 300, 322, 900, 1000, 2000, 2222}) {
      faults.addAll(new Used().go("would(99," + head + ",15,15)=BAD add(99," + head + ",15,15,0)=BAD").faults);
    }
    tellFaults(6, "its HEAD as three figures of signs (0, 1, 2 each: 0 to 222)", faults);
  }

  private static void rulesByRank() {
    edge(12, "It HAS a KEY, if each sign of its HEAD is that bit or any", "laid:1,1*0,3-3,1; rule(0,6)=2",
        "key(67,5)=1 key(99,5)=1 key(83,5)=0 key(115,5)=0 key(3,5)=0 key(35,5)=0");
    edge(19, "and the TAIL is in its SPAN", "laid:1,000,3-12,1; key(2,5)=0 key(3,5)=1 key(12,5)=1 key(13,5)=0 key(2,1)=NONE key(3,1)=1 key(12,1)=1",
        "key(13,1)=NONE");
    edge(19, "THE LIST ANSWERS a KEY by the RULE of the lowest RANK that HAS it", "laid:1,000,0-0,1;0,000,0-0,2; key(0,1)=2 key(0,0)=2 key(0,3)=1",
        "key(0,2)=0 laid:98,000,0-0,1;99,000,0-0,2; key(0,1)=1 key(0,3)=0");
    edge(19, "THE LIST ANSWERS a KEY by the RULE of the lowest RANK that HAS it", "laid:9,000,0-0,1;10,000,0-0,2; key(0,1)=1",
        "laid:09,000,0-0,1;8,000,0-0,2; key(0,1)=2");
  }

  private static void rowsOfARule() {
    edge(12, "each of which is 16, 8, 4, 2 TAILS or 1", "laid:1,000,0-15,1;2,000,0-7,1;3,000,8-11,1;4,000,6-7,1;5,000,15-15,1; rule(0..4,5)=1",
        "count(1)=5 slot(0,2)=2222 slot(1,2)=222 slot(2,2)=1022 slot(3,2)=112 slot(4,2)=1111");
    edge(12, "from a number on that their number divides", "laid:1,000,4-11,1;2,000,1-2,1;3,000,2-5,1;4,000,7-8,1;5,000,8-15,1; rule(0..3,5)=2",
        "rule(4,5)=1");
    edge(12, "the fewest pieces", "laid:1,000,1-14,1;2,000,0-14,1;3,000,1-15,1; rule(0,5)=6 rule(1,5)=4 rule(2,5)=4 count(1)=14");
    everySpan();
    edge(15, "a ROW for each, the lowest first", "laid:1,***,1-14,1; slot(0,1)=0 slot(1,1)=1 slot(2,1)=2 slot(3,1)=3 slot(4,1)=4 slot(5,1)=5",
        "slot(6,1)=NONE slot(0,2)=2220001 slot(1,2)=2220012 slot(2,2)=2220122 slot(3,2)=2221022 slot(4,2)=2221102 slot(5,2)=2221110");
    edge(15, "seven signs", "laid:1,000,0-0,1;2,***,0-15,1;3,111,15-15,1; slot(0,2)=0 slot(1,2)=2222222 slot(2,2)=1111111");
    edge(19, "A ROW FITS a KEY, if each sign is that bit or any", "laid:1,0*1,6-7,1; key(22,4)=1 key(23,4)=1 key(54,4)=1 key(55,4)=1 key(21,4)=0",
        "key(24,4)=0 key(6,4)=0 key(38,4)=0 key(86,4)=0 key(118,4)=0 slot(0,3)=4");
    edge(17, "Two ROWS MEET, if some KEY is fitted by both", "laid:1,000,0-0,1;2,000,0-0,1;3,000,1-1,1;4,***,0-15,1;5,1**,0-15,1; meet(0,1)=1",
        "meet(0,2)=0 meet(0,3)=1 meet(0,4)=0 meet(3,4)=1");
    edge(17, "Two ROWS MEET, if some KEY is fitted by both", "laid:1,0**,15-15,1;2,*11,0-15,1;3,***,14-15,1;4,**1,0-7,1; meet(0,1)=1 meet(0,2)=1",
        "meet(0,3)=0 meet(1,3)=1 meet(2,3)=0");
  }

  /** The rows of each span, against the fewest pieces that there are. */
  private static void everySpan() {
    List<String> faults = new ArrayList<>();
    for (int from = 0; from < 16; from++) {
      for (int to = from; to < 16; to++) {
        int rows = fewestPieces(from, to);
        Used u = new Used().go("laid: add(7,0," + from + "," + to + ",3)=0 rule(0,5)=" + rows + " count(1)=" + rows + " rule(0,6)=" + (to - from + 1));
        for (int k = 0; k < 16; k++) u.go("key(" + k + ",4)=" + (k >= from && k <= to ? 1 : 0));
        for (int s = 0; s < rows; s++) u.go("slot(" + s + ",1)=" + s);
        faults.addAll(u.faults);
      }
    }
    tellFaults(12, "its SPAN is the fewest pieces", faults);
  }

  private static int fewestPieces(int from, int to) {
    int[] fewest = new int[to + 2];
    for (int end = from + 1; end <= to + 1; end++) {
      fewest[end] = 99;
      for (int size = 1; size <= 16; size *= 2) {
        int start = end - size;
        if (start >= from && start % size == 0) fewest[end] = Math.min(fewest[end], fewest[start] + 1);
      }
    }
    return fewest[to + 1];
  }

  private static void slotsAndBlocks() {
    edge(15, "THE TABLE has SLOTS 0 to 15", "slot(-1,0..3)=BAD slot(16,0..3)=BAD slot(0,0)=2 slot(15,0)=NONE move(6,15)=0 slot(15,0)=3");
    edge(10, "THE TABLE has SLOTS 0 to 15", "move(6,16)=BAD move(6,-1)=BAD move(-1,15)=BAD move(16,15)=BAD move(6,15)=0 move(15,14)=0");
    edge(16, "THE TABLE has SLOTS 0 to 15", "reach(-1,0..2)=BAD reach(16,0..2)=BAD reach(6,0)=7 reach(6,1)=15 reach(6,2)=9",
        "laid:1,000,0-0,1; reach(0,0)=1 move(0,15)=0 reach(15,0)=0 reach(15,1)=14 reach(15,2)=15");
    edge(17, "THE TABLE has SLOTS 0 to 15", "meet(-1,0)=BAD meet(0,-1)=BAD meet(16,0)=BAD meet(0,16)=BAD move(6,15)=0 meet(0,15)=0 meet(15,0)=0");
    edge(18, "THE TABLE has SLOTS 0 to 15", "join(-1,0)=BAD join(0,-1)=BAD join(16,0)=BAD join(0,16)=BAD move(6,15)=0 join(0,15)=0 join(15,0)=0");
    for (int s = 1; s < 16; s++) {
      edge(19, "BLOCK b is SLOTS 4 b to 4 b and 3", "laid:1,000,0-0,1; key(0,6)=1 move(0," + s + ")=0",
        "key(0,6)=" + (s < 4 ? 1 : s < 8 ? 2 : s < 12 ? 4 : 8) + " keys(3)=1");
    }
    edge(19, "in the lowest SLOT that FITS it", "laid:1,000,0-0,1;2,000,0-0,2; key(0,2)=0 move(1,15)=0 key(0,2)=0 move(0,14)=0 key(0,2)=14 key(0,0)=1",
        "drop(0)=1 key(0,2)=15 key(0,0)=2");
    edge(10, "IN ORDER it is if of each two ROWS of unlike RULES that MEET that of the RULE of the lower RANK is in the lower SLOT",
        "laid:1,000,0-0,1;2,000,0-1,2;3,000,1-1,3; move(0,3)=NO move(1,3)=NO move(2,4)=0 move(1,3)=0 move(0,2)=0 move(4,0)=NO move(4,1)=NO");
    edge(10, "IN ORDER it is if of each two ROWS of unlike RULES that MEET that of the RULE of the lower RANK is in the lower SLOT",
        "laid:1,000,0-0,1;2,000,1-1,2; move(0,15)=1 move(1,0)=0 move(15,1)=0");
    edge(10, "of unlike RULES", "laid:1,000,7-8,1; move(0,15)=1 move(1,0)=0 slot(0,1)=1 slot(15,1)=0");
  }

  private static void faultOf(String sentence, String text, String due) {
    boolean isWhole = due.equals("NONE");
    Used u = new Used().go("tell:" + text + " count(6)=" + text.length() + " fault()=" + due);
    int laid = u.x.lay();
    if (isWhole == (laid == -2)) u.faults.add("lay() of '" + text + "' answered " + laid);
    tellFaults(4, sentence, u.faults);
  }

  private static void textsOfRules() {
    faultOf("the RANK (one or two figures)", "1,000,0-0,0;", "NONE");
    faultOf("the RANK (one or two figures)", "01,000,0-0,0;", "NONE");
    faultOf("the RANK (one or two figures)", "001,000,0-0,0;", "0");
    faultOf("the RANK (one or two figures)", ",000,0-0,0;", "0");
    faultOf("the RANK (one or two figures)", "/,000,0-0,0;", "0");
    faultOf("the RANK (one or two figures)", ":,000,0-0,0;", "0");
    faultOf("the RANK (one or two figures)", "1:,000,0-0,0;", "0");
    faultOf("the RANK (one or two figures)", "-1,000,0-0,0;", "0");
    faultOf("a ,", "1.000,0-0,0;", "0");
    faultOf("a ,", "1,000;0-0,0;", "0");
    faultOf("a ,", "1,000,0-0.0;", "0");
    faultOf("a ,", "1,,000,0-0,0;", "0");
    faultOf("three signs (0, 1, or *)", "1,01*,0-0,0;", "NONE");
    faultOf("three signs (0, 1, or *)", "1,***,0-0,0;", "NONE");
    faultOf("three signs (0, 1, or *)", "1,01,0-0,0;", "0");
    faultOf("three signs (0, 1, or *)", "1,01*0,0-0,0;", "0");
    faultOf("three signs (0, 1, or *)", "1,,0-0,0;", "0");
    for (String sign : new String[] {"2", "/", "+", ")", "x"}) {
      faultOf("three signs (0, 1, or *)", "1," + sign + "00,0-0,0;", "0");
      faultOf("three signs (0, 1, or *)", "1,0" + sign + "0,0-0,0;", "0");
      faultOf("three signs (0, 1, or *)", "1,00" + sign + ",0-0,0;", "0");
    }
    faultOf("the SPAN (one or two figures, a -, one or two figures)", "1,000,0-15,0;", "NONE");
    faultOf("the SPAN (one or two figures, a -, one or two figures)", "1,000,00-00,0;", "NONE");
    faultOf("the SPAN (one or two figures, a -, one or two figures)", "1,000,15-15,0;", "NONE");
    faultOf("the SPAN (one or two figures, a -, one or two figures)", "1,000,09-9,0;", "NONE");
    faultOf("the SPAN (one or two figures, a -, one or two figures)", "1,000,9-10,0;", "NONE");
    faultOf("the SPAN (one or two figures, a -, one or two figures)", "1,000,10-9,0;", "0");
    faultOf("the SPAN (one or two figures, a -, one or two figures)", "1,000,0-16,0;", "0");
    faultOf("the SPAN (one or two figures, a -, one or two figures)", "1,000,16-16,0;", "0");
    faultOf("the SPAN (one or two figures, a -, one or two figures)", "1,000,15-16,0;", "0");
    faultOf("the SPAN (one or two figures, a -, one or two figures)", "1,000,000-1,0;", "0");
    faultOf("the SPAN (one or two figures, a -, one or two figures)", "1,000,0-001,0;", "0");
    faultOf("the SPAN (one or two figures, a -, one or two figures)", "1,000,-1,0;", "0");
    faultOf("the SPAN (one or two figures, a -, one or two figures)", "1,000,0-,0;", "0");
    faultOf("the SPAN (one or two figures, a -, one or two figures)", "1,000,0,0;", "0");
    faultOf("the SPAN (one or two figures, a -, one or two figures)", "1,000,0--1,0;", "0");
    faultOf("the ANSWER (a figure)", "1,000,0-0,9;", "NONE");
    faultOf("the ANSWER (a figure)", "1,000,0-0,;", "0");
    faultOf("the ANSWER (a figure)", "1,000,0-0,00;", "0");
    faultOf("the ANSWER (a figure)", "1,000,0-0,10;", "0");
    faultOf("the ANSWER (a figure)", "1,000,0-0,/;", "0");
    faultOf("the ANSWER (a figure)", "1,000,0-0,:;", "0");
    faultOf("the ANSWER (a figure)", "1,000,0-0,*;", "0");
    faultOf("a ;", "1,000,0-0,0", "0");
    faultOf("a ;", "1,000,0-0,0,", "0");
    faultOf("a ;", "1,000,0-0,0:", "0");
    faultOf("RULES one behind the other", "1,000,0-0,0;;", "12");
    faultOf("RULES one behind the other", ";1,000,0-0,0;", "0");
    faultOf("RULES one behind the other", "1,000,0-0,0;,2,000,0-0,0;", "12");
    faultOf("RULES one behind the other", "1,000,0-0,0;2,000,0-0,0;", "NONE");
    for (int length = 1; length < 15; length++) {
      faultOf("FAULT: the place of the first letter of the first RULE that is not so", "12,0*1,10-15,9;".substring(0, length), "0");
      faultOf("FAULT: the place of the first letter of the first RULE that is not so", "1,000,0-0,0;" + "12,0*1,10-15,9;".substring(0, length), "12");
    }
    faultOf("FAULT: the place of the first letter of the first RULE that is not so", "12,0*1,10-15,9;1,000,0-0,0;x,000,0-0,0;y,000,0-0,0;", "27");
    faultOf("FAULT: the place of the first letter of the first RULE that is not so", "12,0*1,10-15,9;1,000,0-0,0;2,000,0-0,x;2,000,0-0,0;", "27");
    faultOf("(a RANK that was told is none)", "1,000,0-0,0;1,111,1-1,1;", "12");
    faultOf("(a RANK that was told is none)", "1,000,0-0,0;01,111,1-1,1;", "12");
    faultOf("(a RANK that was told is none)", "0,000,0-0,0;00,111,1-1,1;", "12");
    faultOf("(a RANK that was told is none)", "1,000,0-0,0;2,000,0-0,0;3,000,0-0,0;1,000,0-0,0;", "36");
    faultOf("(a RANK that was told is none)", "1,000,0-0,0;10,000,0-0,0;11,000,0-0,0;", "NONE");
    faultOf("(a RANK that was told is none)", "5,000,0-0,0;20,000,0-0,0;", "NONE");
    edge(4, "an empty TEXT is without FAULT", "fault()=NONE lay()=0 write(48)=1 fault()=0 wipe()=1 fault()=NONE");
    edge(4, "a space is no letter of a RULE", "tell:1,000,0-0,0; write(32)=13 fault()=12 lay()=NO wipe()=13 write(32)=1 tell:1,000,0-0,0; fault()=0");
  }

  /** Ten rules of 15 letters, two of 12 and two of 13: 200 letters. */
  private static String twoHundredLetters() {
    StringBuilder text = new StringBuilder("1,000,0-0,0;2,000,1-1,0;13,000,2-2,0;14,000,3-3,0;");
    for (int rank = 20; rank < 30; rank++) text.append(rank).append(",111,00-15,1;");
    return text.toString();
  }

  private static String sixteenRules() {
    StringBuilder text = new StringBuilder();
    for (int rank = 15; rank >= 0; rank--) text.append(rank).append(",000,0-0,0;");
    return text.toString();
  }

  private static void textsThatAreLaid() {
    edge(2, "A TEXT is letters (200 at most)", "tell:" + twoHundredLetters(), "count(6)=200 write(48)=FULL count(6)=200 fault()=NONE lay()=14",
        "count(6)=200");
    edge(4, "A TEXT is letters (200 at most)", "tell:" + twoHundredLetters().substring(0, 199), "count(6)=199 fault()=185 write(58)=200 fault()=185",
        "write(59)=FULL fault()=185 lay()=NO");
    edge(5, "LAID is a TEXT without FAULT whose ROWS are 16 at most", "tell:" + SIXTEEN_ROWS, "lay()=3 count(1)=16 count(2)=0 slot(15,0)=2",
        "slot(15,1)=3");
    edge(5, "LAID is a TEXT without FAULT whose ROWS are 16 at most", "tell:" + SIXTEEN_ROWS + "4,000,0-0,0;", "fault()=NONE lay()=NO count(0)=4",
        "count(1)=7");
    edge(5, "LAID is a TEXT without FAULT whose ROWS are 16 at most", "tell:1,000,1-14,0;2,000,1-14,0;3,000,1-13,0; fault()=NONE lay()=NO",
        "count(1)=7");
    edge(5, "LAID is a TEXT without FAULT whose ROWS are 16 at most", "tell:" + sixteenRules(), "count(6)=198 fault()=NONE lay()=16 count(0)=16",
        "rule(15,0)=0 rule(16,0)=BAD slot(0,0)=15 slot(15,0)=0");
    edge(4, "16 ROWS at most: a 17th RULE has no room in 200 letters", "tell:" + sixteenRules(), "fault()=NONE write(49)=199 fault()=198 write(54)=200",
        "fault()=198 write(44)=FULL fault()=198 lay()=NO");
    edge(5, "(an empty one, too", "lay()=0 count(0..1)=0 count(2)=16 keys(0)=128 slot(0..15,0)=NONE");
    edge(5, "NO else", "write(59)=1 lay()=NO count(0)=4");
    edge(5, "RULES are numbered 0, 1, .. as told", "tell:9,000,0-0,1;8,000,1-1,2;0,000,2-2,3; lay()=3 rule(0,0)=9 rule(1,0)=8 rule(2,0)=0 slot(0,0)=2",
        "slot(1,0)=1 slot(2,0)=0");
    edge(5, "PACKED: all ROWS from SLOT 0 on, by the RANK of their RULES, of one RULE in their order",
        "tell:99,111,7-8,1;0,000,7-8,2; lay()=2 slot(0,0)=1 slot(0,1)=0 slot(1,0)=1 slot(1,1)=1 slot(2,0)=0 slot(2,1)=0 slot(3,0)=0 slot(3,1)=1",
        "slot(4..15,0)=NONE");
  }

  private static void movesOfRows() {
    edge(10, "the ROW of a SLOT (any) goes to an empty SLOT", "laid:1,000,0-0,1; move(0,1..15) laid:1,000,0-0,1; move(0,0)=NO move(0,1)=0 move(1,15)=0",
        "move(15,0)=0 move(1,0)=NO");
    edge(10, "THE TABLE must be IN ORDER behind it", "laid:" + CHAIN, "move(0..3,5..15)=NO move(4,5)=0 move(3,6..15)=NO move(3,4)=0 move(4,3)=0");
    edge(6, "(without a ROW that is still to come in)", "laid:" + CHAIN, "add(35,222,0,15,0)=2 moved(0,0)=4 moved(0,1)=5 moved(1,0)=3 moved(1,1)=4",
        "slot(3,0)=5");
  }

  private static void rowsThatComeIn() {
    edge(6, "A ROW comes in by the fewest MOVES", "laid:" + CHAIN, "add(60,222,0,15,0)=0 slot(5,0)=5 moved(-1,0)=0");
    // 30 could make room for 10, but one move of 20 is less.
    edge(6, "A ROW comes in by the fewest MOVES", "laid:1,111,0-0,0;10,000,0-0,0;30,000,0-0,0; add(20,0,0,0,0)=1 moved(0,0)=2 moved(0,1)=3 slot(2,0)=3",
        "slot(0,0)=0 slot(1,0)=1");
    edge(6, "(3 at most)", "laid:" + CHAIN, "add(25,222,0,15,0)=3 moved(0,0)=4 moved(0,1)=5 moved(1,0)=3 moved(1,1)=4 moved(2,0)=2 moved(2,1)=3",
        "moved(3,0)=NONE slot(2,0)=5");
    edge(6, "(3 at most)", "laid:" + CHAIN, "add(15,222,0,15,0)=FULL add(5,222,0,15,0)=FULL count(0)=5 count(5)=0");
    edge(13, "(3 at most)", "laid:" + CHAIN, "would(55,222,0,15)=0 would(45,222,0,15)=1 would(35,222,0,15)=2 would(25,222,0,15)=3",
        "would(15,222,0,15)=FULL would(5,222,0,15)=FULL");
    edge(6, "(3 at most): of each ROW, not of the RULE", "laid:" + CHAIN, "add(25,222,7,8,0)=6 moved(-1,0)=6 moved(5,0)=3 moved(5,1)=4 moved(6,0)=NONE",
        "slot(2,1)=0 slot(3,1)=1");
    // Four rows of three moves each and two behind them; the most moves of a rule are 18.
    edge(14, "(3 at most): of each ROW, not of the RULE", "laid:" + CHAIN, "add(25,222,1,14,0)=18 moved(-1,0)=18 moved(17,0)=7 moved(17,1)=8",
        "moved(18,0..1)=NONE slot(2..7,0)=5 count(1)=11");
    edge(6, "behind which there is an empty SLOT", "laid:1,000,0-15,0;2,***,1-14,0;3,***,1-14,0;4,***,3-4,0; count(2)=1 would(50,0,0,1)=0",
        "add(50,0,7,8,0)=FULL add(50,0,0,1,0)=0 count(2)=0 add(60,0,0,1,0)=FULL");
    edge(6, "an empty SLOT in which THE TABLE would be IN ORDER with it", "laid:1,000,0-0,1; move(0,15)=0 add(2,0,0,0,2)=1 moved(0,0)=15 moved(0,1)=0",
        "slot(1,0)=1 laid:2,000,0-0,1; add(1,0,0,0,2)=1 moved(0,0)=0 moved(0,1)=1 slot(0,0)=1");
    edge(6, "an empty SLOT in which THE TABLE would be IN ORDER with it", "laid:1,000,0-0,1;3,000,0-0,1; move(1,15)=0 move(0,14)=0 add(2,0,0,0,2)=1",
        "moved(0,0)=14 moved(0,1)=0 slot(1,0)=2 undo()=2 add(4,0,0,0,2)=2 moved(0,0)=14 moved(0,1)=0 moved(1,0)=15 moved(1,1)=1 slot(2,0)=2");
    edge(6, "it comes into the lowest such SLOT", "laid:1,000,0-0,0;2,000,1-1,0;3,000,2-2,0;4,000,3-3,0; drop(1)=3 drop(1)=2 add(50,0,9,9,0)=0",
        "slot(1,0)=2 add(51,0,3,3,0)=0 slot(4,0)=3 slot(2,0)=NONE add(52,0,8,8,0)=0 slot(2,0)=4");
    edge(6, "its ROWS one behind the other", "laid:1,111,0-0,0;2,000,7-7,0; drop(0)=1 add(0,0,7,8,0)=0 slot(0,1)=0 slot(0,0)=1 slot(2,1)=1",
        "slot(2,0)=1");
    edge(6, "if one cannot, all is as it was", "laid:10,***,8-8,1;20,***,8-8,1;30,***,8-8,1;40,***,8-8,1;60,***,7-7,1; would(5,0,7,7)=1",
        "would(5,0,8,8)=FULL add(5,0,7,8,1)=FULL slot(4,0)=4 slot(0,0)=0 slot(5..15,0)=NONE count(0)=5 count(5)=0");
  }

  private static void ofSeveralMovesTheFirst() {
    edge(6, "of several the first ones by: the SLOT from which the first MOVE goes", "laid:1,111,5-5,0;10,000,0-0,1;30,000,0-0,2; drop(0)=2",
        "add(20,0,0,0,3)=1 moved(0,0)=1 moved(0,1)=0 slot(1,0)=2 slot(2,0)=1");
    edge(6, "that to which it goes", "laid:1,111,5-5,0;2,111,6-6,0;10,000,0-0,1;30,000,0-0,2; drop(0)=3 drop(0)=2",
        "add(20,0,0,0,3)=1 moved(0,0)=2 moved(0,1)=0 slot(1,0)=2 slot(2,0)=NONE slot(3,0)=1");
    edge(6, "that to which it goes", "laid:10,000,0-0,1;20,000,1-1,2; add(5,0,0,1,3)=1 moved(0,0)=0 moved(0,1)=2 slot(0,0)=2");
    // The row of 20 and that of 30 could go behind that of 10, each of them would do.
    edge(6, "then by the second MOVE likewise", "laid:20,000,0-1,0;30,000,2-3,0;40,00*,0-3,0; add(10,2,2,3,9)=2",
        "moved(0,0)=2 moved(0,1)=3 moved(1,0)=0 moved(1,1)=2 slot(0,0)=3 slot(1,0)=1");
    edge(6, "then by the second MOVE likewise", "laid:1,111,0-0,0;2,111,1-1,0;30,000,0-0,0;40,000,0-0,0;60,000,0-0,0;70,000,0-0,0; drop(0)=5",
        "drop(0)=4 add(50,0,0,0,9)=2 moved(0,0)=2 moved(0,1)=0 moved(1,0)=3 moved(1,1)=1 slot(2,0)=4 slot(3,0)=NONE");
    edge(6, "then by the second MOVE likewise", "laid:20,000,0-3,0;30,001,3-3,0;40,000,0-1,0;50,00*,0-3,0; add(10,0,0,1,9)=3",
        "moved(0,0)=3 moved(0,1)=4 moved(1,0)=1 moved(1,1)=3 moved(2,0)=0 moved(2,1)=1 slot(0,0)=4");
    edge(6, "then by the third", "laid:10,001,3-3,0;30,00*,0-1,0;40,00*,0-3,0;50,00*,0-3,0; add(20,0,0,3,9)=3",
        "moved(0,0)=3 moved(0,1)=4 moved(1,0)=2 moved(1,1)=3 moved(2,0)=0 moved(2,1)=2 slot(0,0)=4 slot(1,0)=1");
    edge(6, "then by the third",
        "laid:1,111,0-0,0;2,111,1-1,0;3,111,2-2,0;30,000,0-0,0;40,000,0-0,0;45,000,0-0,0;60,000,0-0,0;70,000,0-0,0;80,000,0-0,0;",
        "drop(0)=8 drop(0)=7 drop(0)=6 add(50,0,0,0,9)=3 moved(0,0)=3 moved(0,1)=0 moved(1,0)=4 moved(1,1)=1 moved(2,0)=5 moved(2,1)=2 slot(3,0)=6",
        "slot(4..5,0)=NONE slot(6,0)=3");
  }

  private static void coveredAndIdle() {
    edge(12, "COVERED is a RULE if each KEY that it HAS is one that a RULE of a lower RANK HAS",
        "laid:1,000,0-7,1;2,000,0-7,2;3,000,0-8,3;4,000,8-8,4; rule(0,8)=0 rule(1,8)=1 rule(2,8)=0 rule(3,8)=1 count(3)=2");
    edge(12, "COVERED is a RULE if each KEY that it HAS is one that a RULE of a lower RANK HAS",
        "laid:1,000,0-7,1;3,000,3-12,3;2,000,8-12,2;4,***,0-15,4; rule(1,8)=1 rule(3,8)=0 drop(2)=3 rule(1,8)=0");
    edge(12, "COVERED is a RULE if each KEY that it HAS is one that a RULE of a lower RANK HAS",
        "laid:1,0**,0-15,1;2,1**,0-14,2;3,***,0-15,3;4,***,15-15,4; rule(2,8)=0 rule(2,7)=4 rule(3,8)=1 rule(3,7)=0");
    edge(12, "a RULE of a lower RANK, not of a higher one", "laid:5,000,3-3,1;6,***,0-15,1; rule(0,8)=0 rule(1,8)=0 laid:7,000,3-3,1;6,***,0-15,1;",
        "rule(0,8)=1");
    edge(12, "IDLE is a RULE without which THE LIST would give each KEY the same ANSWER", "laid:1,000,0-3,1;2,000,0-7,1; rule(0,9)=1 rule(0,8)=0",
        "rule(1,9)=0 laid:1,000,0-3,1;2,000,0-7,2; rule(0,9)=0");
    edge(12, "or none as now", "laid:1,000,0-7,1;2,000,8-15,1; rule(0..1,9)=0 laid:1,000,0-8,1;2,000,0-7,1; rule(0,9)=0 rule(1,9)=1");
    edge(12, "(the number of the ANSWER, not the RULE)", "laid:1,000,0-3,4;2,000,0-1,5;3,000,0-3,4; rule(0,9)=0 rule(1,9)=1 rule(2,9)=1 drop(1)=2",
        "rule(0,9)=1 rule(1,9)=1 count(4)=2");
    edge(12, "each KEY", "laid:1,000,0-0,1;2,000,0-1,2; rule(0,9)=0 laid:1,111,15-15,1;2,111,14-15,2; rule(0,9)=0 laid:1,000,0-0,1; rule(0,9)=0",
        "laid:1,111,15-15,1; rule(0,9)=0");
    edge(12, "IDLE: an ANSWER 0 is not none", "laid:1,000,0-3,0; rule(0,9)=0 count(4)=0 laid:1,000,0-3,0;2,000,0-3,0; rule(0..1,9)=1");
  }

  private static void whatIsUndone() {
    edge(11, "a RULE comes in", "add(50,0,0,0,0)=0 count(5)=1 undo()=0 count(0)=4 count(5)=0 undo()=NO");
    edge(11, "or goes", "drop(3)=3 count(5)=1 undo()=0 count(0)=4 rule(3,0)=30 undo()=NO");
    edge(11, "all COVERED ones go", "laid:1,000,0-3,0;2,000,0-3,0;3,000,0-3,0; purge()=2 count(5)=1 undo()=0 count(0)=3 slot(2,0)=2 undo()=NO");
    edge(11, "a MOVE by hand", "move(6,15)=0 count(5)=1 undo()=0 slot(6,0)=3 slot(15,0)=NONE undo()=NO");
    edge(11, "PACKED (if that moves some ROW", "pack()=0 count(5)=0 undo()=NO move(6,7)=0 pack()=1 count(5)=2 undo()=1 slot(7,0)=3 undo()=0",
        "slot(6,0)=3 undo()=NO");
    edge(11, "COVERED ones go: if there is one", "purge()=0 count(5)=0 undo()=NO laid:1,000,0-3,0;2,000,0-3,0; purge()=1 count(5)=1 purge()=0",
        "count(5)=1 undo()=0");
    edge(11, "PACKED of no ROW at all", "lay()=0 pack()=0 purge()=0 count(5)=0 undo()=NO");
    edge(11, "the last 5 can be", "move(6,7)=0 move(7,8)=0 move(8,9)=0 move(9,10)=0 move(10,11)=0 count(5)=5 undo()=4 undo()=3 undo()=2 undo()=1",
        "undo()=0 slot(6,0)=3 undo()=NO slot(6,0)=3");
    edge(11, "the last 5 can be", "move(6,7)=0 move(7,8)=0 move(8,9)=0 move(9,10)=0 move(10,11)=0 move(11,12)=0 count(5)=5",
        "undo()=4 slot(11,0)=3 undo()=3 slot(10,0)=3 undo()=2 slot(9,0)=3 undo()=1 slot(8,0)=3 undo()=0 slot(7,0)=3 undo()=NO slot(7,0)=3",
        "count(5)=0");
    edge(11, "the last 5 can be", "move(6,7)=0 move(7,6)=0 ".repeat(7), "count(5)=5 undo()=4 undo()=3 move(7,9)=NO slot(6,0)=3",
        "move(6,9)=0 count(5)=4 drop(3)=3 count(5)=5 drop(0)=2 count(5)=5 undo()=4 undo()=3 slot(9,0)=3 undo()=2 slot(6,0)=3 undo()=1 slot(7,0)=3",
        "undo()=0 slot(6,0)=3 undo()=NO");
    edge(11, "UNDONE is the latest change", "drop(0)=3 move(6,15)=0 undo()=1 slot(6,0)=2 count(0)=3 undo()=0 count(0)=4 slot(1..4,0)=0");
    edge(11, "LAID none", "move(6,7)=0 drop(0)=3 count(5)=2 wipe()=0 lay()=0 count(5)=0 undo()=NO count(0)=0");
    edge(11, "LAID none", "tell:1,***,0-15,1; lay()=1 undo()=NO count(0)=1 drop(0)=0 undo()=0 undo()=NO lay()=1 undo()=NO");
    edge(11, "LAID none, if it is refused the changes stay", "move(6,7)=0 write(59)=1 lay()=NO count(5)=1 undo()=0 slot(6,0)=3");
  }

  // ---- the promises

  private static void newObject() {
    edge(1, "As told", "count(0)=4 count(1)=7 count(2)=9 count(5)=0 rule(4,0..9)=BAD slot(7..15,0..3)=NONE undo()=NO moved(-1,0)=0 moved(0,0..1)=NONE",
        "pack()=0 purge()=0",
        "rule(0,0)=10 rule(1,0)=20 rule(2,0)=5 rule(3,0)=30 rule(0,1)=120 rule(1,1)=222 rule(2,1)=12 rule(3,1)=122 rule(0,2)=3 rule(0,3)=12",
        "rule(1,2)=0 rule(1,3)=7 rule(2,2..3)=6 rule(3,2)=8 rule(3,3)=15 rule(0,4)=1 rule(1,4)=2 rule(2,4)=3 rule(3,4)=4");
    edge(1, "THE TEXT is empty", "count(6)=0 wipe()=0 fault()=NONE write(48)=1");
    edge(1, "THE TEXT is empty", "lay()=0 count(0)=0");
    Used first = new Used().go("add(50,0,0,0,0)=0 drop(0)=4 move(6,15) write(48)=1");
    Used second = new Used().go("count(0)=4 count(1)=7 count(5)=0 count(6)=0 slot(6,0)=3 write(50)=1 write(51)=2");
    first.go("count(0)=4 count(6)=1 wipe()=1");
    first.faults.addAll(second.go("count(6)=2").faults);
    tellFaults(1, "A new object has nothing of another one", first.faults);
  }

  private static void write() {
    edge(2, "A letter (32 to 126, as in ASCII)", "write(31)=BAD write(127)=BAD write(-1)=BAD write(0)=BAD write(10)=BAD write(128)=BAD write(288)=BAD",
        "count(6)=0 write(32)=1 write(126)=2");
    edge(2, "how long it is", "write(49)=1 write(49)=2 write(200)=BAD write(49)=3 wipe()=3 write(49)=1");
    edge(2, "FULL", "write(48) ".repeat(199), "write(48)=200 write(48)=FULL write(32)=FULL write(126)=FULL count(6)=200 wipe()=200 write(48)=1");
    edge(2, "BAD; FULL", "write(48) ".repeat(200), "write(31)=BAD write(127)=BAD write(48)=FULL");
    leavesAll(2, "BAD: nothing changes then", "laid:" + CHAIN + " add(25,222,0,15,0)", "write(127)=BAD");
    leavesAll(2, "BAD: nothing changes then", "tell:1,*** write(48)", "write(31)=BAD");
    edge(2, "FULL: nothing changes then", "tell:" + twoHundredLetters(), "write(120)=FULL fault()=NONE lay()=14 rule(13,0)=29 write(120)=FULL",
        "rule(13,0)=29 count(0)=14 count(6)=200");
  }

  private static void wipe() {
    edge(3, "THE TEXT is empty", "tell:1,***,0-15,1; wipe()=13 count(6)=0 fault()=NONE wipe()=0 lay()=0");
    edge(3, "how long it was", "wipe()=0 write(48)=1 wipe()=1 wipe()=0", "write(48) ".repeat(200), "wipe()=200 wipe()=0 count(6)=0 write(48)=1",
        "wipe()=1");
    edge(3, "what was wiped is not read", "tell:1,***,0-15,1; wipe()=13 tell:1,***,0-15, fault()=0 lay()=NO");
    leavesAll(3, "an empty TEXT that is wiped is as it was", "move(6,15) add(15,222,0,15,9)", "wipe()=0");
    edge(3, "wiping is no change", "move(6,15)=0 tell:1,* wipe()=3 count(5)=1 count(0)=4 slot(15,0)=3 undo()=0 count(6)=0");
  }

  private static void fault() {
    edge(4, "NONE", "fault()=NONE tell:1,***,0-15,1; fault()=NONE fault()=NONE");
    edge(4, "FAULT", "write(59)=1 fault()=0 fault()=0 count(6)=1 wipe()=1 fault()=NONE");
    edge(4, "FAULT, not that there are too many ROWS", "tell:" + SIXTEEN_ROWS + "4,111,1-14,1;", "fault()=NONE lay()=NO");
    edge(4, "FAULT of the TEXT, not of the RULES that there are", "tell:10,***,0-15,1; fault()=NONE lay()=1 fault()=NONE lay()=1");
    leavesAll(4, "to ask for a FAULT changes nothing", "laid:" + CHAIN + " add(45,222,0,15,0) tell:1, move(5,9)", "fault()=70");
  }

  private static void lay() {
    edge(5, "how many RULES", "lay()=0 tell:7,000,1-14,1; lay()=1 tell:8,000,1-14,1; lay()=2");
    edge(5, "no MOVES are told", "laid:" + CHAIN, "add(25,222,0,15,0)=3 moved(-1,0)=3 lay()=5 moved(-1,0..1)=0 moved(0,0..1)=NONE");
    edge(5, "THE TEXT stays", "tell:1,***,0-15,1; lay()=1 count(6)=13 lay()=1 wipe()=13");
    edge(5, "NO", "write(48)=1 lay()=NO lay()=NO count(0)=4 count(6)=1");
    String changed = "laid:" + CHAIN + " add(25,222,0,15,0) move(5,12) ";
    leavesAll(5, "NO: nothing changes then (FAULT)", changed + "tell:6,***,0-15,1", "lay()=NO");
    leavesAll(5, "NO: nothing changes then (a RANK that was told)", changed + "tell:10,***,0-15,1;", "lay()=NO");
    leavesAll(5, "NO: nothing changes then (17 ROWS)", changed + "tell:60,***,1-14,1;61,***,1-14,1;", "lay()=NO");
  }

  private static void add() {
    edge(6, "(0, 1, 2 each: 0 to 222)", "add(99,222,15,15,0)=0 undo()=0 add(1,223,15,15,0)=BAD add(1,0,15,15,0)=0 add(2,-1,15,15,0)=BAD",
        "add(2,3,15,15,0)=BAD add(2,30,15,15,0)=BAD add(2,300,15,15,0)=BAD");
    edge(6, "how many MOVES", "add(50,222,0,15,0)=0 add(15,222,0,15,0)=2 moved(-1,0)=2");
    edge(6, "NO: there is one of that RANK", "add(10,111,0,15,0)=NO add(11,0,15,15,0)=0 add(11,0,14,14,0)=NO");
    edge(6, "FULL: it cannot", "laid:" + SIXTEEN_ROWS, "add(50,0,0,0,0)=FULL add(0,0,0,0,0)=FULL drop(2)=2 count(2)=4 add(50,0,0,0,0)=0",
        "add(51,1,1,8,0)=FULL add(51,1,1,7,0)=0 count(2)=0 add(52,1,1,1,0)=FULL");
    edge(6, "a RULE that comes in is numbered behind the others", "add(0,0,0,0,9)=1 rule(4,0)=0 rule(4,4)=9 rule(5,0)=BAD drop(4)=4 rule(4,0)=BAD");
    edge(6, "as many RULES as SLOTS", "laid:" + sixteenRules(), "add(50,0,0,0,0)=FULL drop(0)=15 add(50,0,0,0,0)=0 count(0)=16 rule(15,0)=50",
        "rule(16,0)=BAD add(51,0,0,0,0)=FULL");
  }

  private static void drop() {
    edge(7, "A RULE goes with all its ROWS", "laid:" + SIXTEEN_ROWS, "drop(1)=2 count(1)=10 count(2)=6 slot(5,0)=0 slot(6..11,0)=NONE",
        "slot(12..15,0)=1");
    edge(7, "those behind it are one number lower", "drop(1)=3 rule(0,0)=10 rule(1,0)=5 rule(2,0)=30 rule(3,0)=BAD slot(0,0)=1 slot(1..4,0)=0",
        "slot(5,0)=NONE slot(6,0)=2",
        "rule(1,1)=12 rule(1,2..3)=6 rule(1,4)=3 rule(1,6)=2 rule(2,1)=122 rule(2,2)=8 rule(2,3)=15 rule(2,4)=4 rule(2,6)=32");
    edge(7, "how many are left", "drop(3)=3 drop(0)=2 drop(1)=1 drop(0)=0 drop(0)=BAD count(0)=0");
    edge(7, "BAD", "drop(-1)=BAD drop(4)=BAD drop(3)=3 drop(3)=BAD count(5)=1");
    edge(7, "those behind it are one number lower", "laid:" + sixteenRules(), "drop(15)=15 drop(0)=14 rule(0,0)=14 rule(13,0)=1 rule(14,0)=BAD",
        "slot(0,0)=NONE slot(1,0)=13 slot(15,0)=NONE");
  }

  private static void purge() {
    edge(8, "how many", "purge()=0 count(0)=4 count(5)=0 laid:1,000,0-0,1;2,000,0-0,2; purge()=1 count(0)=1 rule(0,0)=1 purge()=0");
    edge(8, "All COVERED RULES go", "laid:" + sixteenRules(), "purge()=15 count(0)=1 rule(0,0)=0 slot(0,0)=0 slot(1..15,0)=NONE count(5)=1 undo()=0",
        "count(0)=16 slot(15,0)=0");
    edge(8, "(those that are now)", "laid:1,000,0-7,1;3,000,4-11,2;2,000,8-15,3;4,000,4-11,4;5,00*,0-15,5; purge()=2 rule(0,0)=1 rule(1,0)=2",
        "rule(2,0)=5 rule(3,0)=BAD purge()=0");
    edge(8, "ROWS stay in their SLOTS", "laid:1,000,0-0,1;2,000,0-0,2;3,001,0-0,2; purge()=1 slot(0,0)=0 slot(1,0)=NONE slot(2,0)=1 pack()=1");
    edge(8, "none is COVERED where there is no RULE", "lay()=0 purge()=0 count(5)=0");
    leavesAll(8, "COVERED ones go: if there is one", "laid:1,000,0-7,1;2,000,0-8,2; move(1,9) move(0,4) write(32)", "purge()=0");
  }

  private static void pack() {
    edge(9, "how many ROWS are in other SLOTS than they were", "pack()=0 move(6,7)=0 pack()=1 pack()=0 drop(2)=3 pack()=6 pack()=0");
    edge(9, "how many ROWS are in other SLOTS than they were", "laid:1,000,7-8,1; move(0,2)=1 move(1,0)=0 move(2,1)=0 slot(0,1)=1 slot(1,1)=0 pack()=2",
        "slot(0,1)=0 slot(1,1)=1");
    edge(9, "how many ROWS are in other SLOTS than they were", "laid:1,000,0-0,1;2,000,1-1,1; move(0,2)=1 move(1,0)=0 move(2,1)=0 pack()=2 slot(0,0)=0",
        "slot(1,0)=1 count(5)=4");
    edge(9, "PACKED", "laid:" + SIXTEEN_ROWS, "pack()=0 count(5)=0 drop(0)=2 pack()=10 slot(9,0)=1 slot(10..15,0)=NONE count(5)=2");
    edge(9, "PACKED with a ROW in the last SLOT", "laid:1,000,0-0,1; move(0,15)=0 pack()=1 slot(0,0)=0 slot(15,0)=NONE");
    edge(9, "PACKED: by the RANK of their RULES", "add(0,0,15,15,0)=0 slot(7,0)=4 pack()=8 slot(0,0)=4 slot(1,0)=2 slot(7,0)=3");
    leavesAll(9, "PACKED (if that moves some ROW", "laid:" + CHAIN + " add(25,222,0,15,0) drop(5) pack() write(32)", "pack()=0");
  }

  private static void move() {
    edge(10, "how many ROWS it passes (those in SLOTS between)", "laid:1,000,0-0,1;2,001,0-0,1;3,010,0-0,1;4,011,0-0,1;",
        "move(0,4)=3 move(4,5)=0 move(5,0)=3 move(0,15)=3 move(15,0)=3 move(1,4)=2 move(4,1)=2 move(3,4)=0 move(2,3)=0 move(4,2)=1");
    edge(10, "BAD", "move(-1,7)=BAD move(16,7)=BAD move(6,-1)=BAD move(6,16)=BAD move(-1,16)=BAD count(5)=0");
    edge(10, "NO: there is no ROW", "move(7,8)=NO move(15,14)=NO move(7,7)=NO move(7,6)=NO");
    edge(10, "that SLOT is not empty", "move(0,1)=NO move(6,5)=NO move(6,6)=NO move(0,0)=NO");
    edge(10, "it would not be IN ORDER", "move(0,7)=NO move(5,7)=1 move(0,5)=4 move(5,8)=NO move(5,15)=NO move(7,4)=NO");
    edge(10, "MOVES by hand are not told by moved()", "add(15,222,0,15,9)=1 move(6,9)=1 moved(-1,0)=1 moved(0,0)=5 moved(0,1)=7");
  }

  private static void undo() {
    edge(11, "how many more can be", "drop(0)=3 drop(0)=2 drop(0)=1 undo()=2 undo()=1 undo()=0 undo()=NO undo()=NO count(0)=4");
    edge(11, "NO", "undo()=NO count(0)=4 drop(0)=3 undo()=0 undo()=NO drop(0)=3 undo()=0");
    edge(11, "UNDONE: THE TEXT is no change", "move(6,7)=0 tell:1,*** undo()=0 count(6)=5 wipe()=5 undo()=NO");
    edge(11, "UNDONE: numbers and SLOTS are as they were", "laid:" + sixteenRules(), "drop(7)=15 slot(8,0)=NONE undo()=0 rule(7,0)=8 rule(15,0)=0",
        "slot(8,0)=7 slot(15,0)=0 count(0)=16");
    edge(11, "UNDONE: the first SLOT and the last one", "laid:1,101,9-9,4;2,110,6-7,5; move(1,15)=0 move(0,1)=0 drop(1)=1 drop(0)=0 undo()=3",
        "undo()=2",
        "slot(15,0)=1 slot(15,1)=0 slot(15,2)=1100112 slot(15,3)=2 slot(0,0)=NONE undo()=1 slot(0,0..1)=0 slot(0,2)=1011001 slot(0,3)=1 undo()=0",
        "slot(15,0)=NONE slot(1,2)=1100112",
        "move(1,15)=0 move(15,14)=0 move(0,15)=1 slot(15,2)=1011001 undo()=2 undo()=1 slot(15,2)=1100112 slot(0,2)=1011001");
    edge(11, "UNDONE: a RULE that came in by MOVES", "laid:" + CHAIN, "add(25,222,1,14,0)=18 undo()=0 slot(0,0)=0 slot(1,0)=1 slot(2,0)=2 slot(3,0)=3",
        "slot(4,0)=4 slot(5..15,0)=NONE count(0)=5 add(25,222,1,14,0)=18");
    leavesAll(11, "NO: nothing changes then", "laid:" + CHAIN + " add(25,222,0,15,0) undo()", "undo()=NO");
    leavesAll(11, "NO: nothing changes then (behind the last of 5)",
        "move(6,7) move(7,8) move(8,9) move(9,10) move(10,11) move(11,12) " + "undo() ".repeat(5), "undo()=NO");
  }

  private static void rule() {
    edge(12, "BAD", "rule(-1,0..9)=BAD rule(4,0..9)=BAD rule(0,-1)=BAD rule(0,10)=BAD rule(3,-1)=BAD rule(3,10)=BAD rule(3,9)=0 rule(3,0)=30");
    edge(12, "how many KEYS it HAS", "laid:1,000,0-0,0;2,***,0-15,0;3,1**,0-7,0; rule(0,6)=1 rule(1,6)=128 rule(2,6)=32");
    edge(12, "how many KEYS THE LIST ANSWERS by it", "laid:1,000,0-0,0;2,***,0-15,0;3,1**,0-7,0; rule(0,7)=1 rule(1,7)=127 rule(2,7)=0");
    edge(12, "how many ROWS", "laid:1,000,0-0,0;2,***,1-14,0; rule(0,5)=1 rule(1,5)=6");
  }

  private static void would() {
    edge(13, "How many MOVES add() would make", "laid:" + CHAIN, "would(25,222,1,14)=18 add(25,222,1,14,0)=18 would(12,222,0,0)=FULL",
        "would(99,222,0,0)=0");
    edge(13, "NO, FULL as it would tell", "would(10,222,0,15)=NO laid:" + SIXTEEN_ROWS, "would(3,0,0,0)=NO would(4,0,0,0)=FULL");
    edge(13, "BAD", "would(-1,0,0,0)=BAD would(100,0,0,0)=BAD would(1,223,0,0)=BAD would(1,-1,0,0)=BAD would(1,3,0,0)=BAD would(1,0,-1,0)=BAD",
        "would(1,0,0,16)=BAD would(1,0,1,0)=BAD");
    edge(13, "BAD, as add() would tell it", "would(10,3,0,0)=BAD would(10,0,1,0)=BAD laid:" + SIXTEEN_ROWS, "would(3,3,0,0)=BAD",
        "would(100,0,0,0)=BAD");
    String changed = "laid:" + CHAIN + " add(25,222,0,15,0) move(5,12) write(32)";
    leavesAll(13, "what add() would make is not made", changed, "would(26,222,0,15)=2");
    leavesAll(13, "what add() would make is not made", changed, "would(22,222,1,14)=18");
    leavesAll(13, "what add() would make is not made", changed, "would(12,222,0,15)=FULL");
  }

  private static void moved() {
    edge(14, "(i = -1; 0: none was since LAID", "moved(-1,0..1)=0 add(15,222,0,15,9)=1 moved(-1,0..1)=1 lay()=0 moved(-1,0..1)=0");
    edge(14, "the last add() that was done", "laid:" + CHAIN, "add(45,222,0,15,0)=1 add(12,222,0,15,0)=FULL add(10,0,0,0,0)=NO add(100,0,0,0,0)=BAD",
        "moved(-1,0)=1 moved(0,0)=4 moved(0,1)=5 add(99,222,0,15,0)=0 moved(-1,0)=0 moved(0,0)=NONE");
    edge(14, "the last add() that was done", "laid:" + CHAIN, "add(45,222,0,15,0)=1 would(35,222,0,15)=3 moved(-1,0)=1 drop(0)=5 purge()=4",
        "moved(-1,0)=1 pack()=1 moved(-1,0)=1");
    edge(14, "undo() leaves this", "laid:" + CHAIN, "add(45,222,0,15,0)=1 undo()=0 moved(-1,0)=1 moved(0,0)=4 moved(0,1)=5 moved(1,0)=NONE",
        "add(99,222,0,15,0)=0 undo()=0 moved(-1,0)=0");
    edge(14, "of the i-th the SLOT from (what = 0), to (1)", "laid:" + CHAIN, "add(25,222,0,15,0)=3 moved(2,0)=2 moved(2,1)=3 moved(2,-1)=BAD",
        "moved(2,2)=BAD moved(3,-1)=BAD moved(3,2)=BAD");
    edge(14, "BAD (i below -1)", "moved(-2,0..1)=BAD moved(-3,0)=BAD moved(-1,0)=0");
    edge(14, "NONE: not so many", "moved(0,0..1)=NONE laid:" + CHAIN, "add(45,222,0,15,0)=1 moved(0,0)=4 moved(1,0..1)=NONE moved(18,0)=NONE",
        "moved(17,1)=NONE moved(16,1)=NONE");
    edge(14, "0: none was since LAID, if LAID was not refused", "add(15,222,0,15,9)=1 write(59)=1 lay()=NO moved(-1,0)=1");
  }

  private static void slot() {
    edge(15, "BAD", "slot(-1,0)=BAD slot(16,0)=BAD slot(0,-1)=BAD slot(0,4)=BAD slot(15,-1)=BAD slot(15,4)=BAD slot(0,3)=2");
    edge(15, "NONE: it is empty", "slot(7,0..3)=NONE slot(15,0..3)=NONE slot(6,0)=3 move(6,15)=0 slot(6,0..3)=NONE slot(15,0)=3 slot(15,1)=0");
    edge(15, "how many KEYS THE TABLE ANSWERS by it", "laid:1,***,0-15,1;2,***,0-15,1; slot(0,3)=128 slot(1,3)=0 drop(0)=1 slot(1,3)=128");
    edge(15, "which of its ROWS", "laid:1,***,1-14,1; move(0,15)=5 slot(15,1)=0 slot(5,1)=5");
  }

  private static void reach() {
    edge(16, "BAD", "reach(-1,0)=BAD reach(16,0)=BAD reach(0,-1)=BAD reach(0,3)=BAD reach(15,3)=BAD reach(15,-1)=BAD");
    edge(16, "NO: there is no ROW", "reach(7,0..2)=NO reach(15,0..2)=NO lay()=0 reach(0..15,0..2)=NO");
    edge(16, "NONE: into none (which below 2)", "reach(0,0..1)=NONE reach(0,2)=0 laid:" + SIXTEEN_ROWS, "reach(0..15,0..1)=NONE reach(0..15,2)=0");
    edge(16, "The lowest SLOT into which the ROW of a SLOT could MOVE", "laid:1,000,0-0,1;2,000,0-0,1;3,000,0-0,1; reach(2,0)=3 reach(2,1)=15",
        "reach(2,2)=13 move(2,15)=0",
        "reach(1,0)=2 reach(1,1)=14 reach(1,2)=13 reach(15,0)=2 reach(15,1)=14 reach(15,2)=13 reach(0,0..1)=NONE move(1,14)=0 move(0,13)=0",
        "reach(13,0)=0 reach(13,1)=12 reach(13,2)=13 reach(14,0)=NONE");
  }

  private static void meet() {
    edge(17, "1, 0", "meet(0,5)=1 meet(5,0)=1 meet(0,1)=0 meet(1,0)=0");
    edge(17, "BAD (one SLOT, told twice, too)", "meet(0,0)=BAD meet(6,6)=BAD meet(7,7)=BAD meet(15,15)=BAD meet(-1,-1)=BAD meet(16,16)=BAD",
        "meet(-1,0)=BAD meet(0,16)=BAD");
    edge(17, "NO: one is empty", "meet(6,7)=NO meet(7,6)=NO meet(7,8)=NO meet(0,15)=NO meet(15,0)=NO meet(5,6)=0");
  }

  private static void join() {
    edge(18, "BAD (one SLOT, told twice, too)", "join(0,0)=BAD join(6,6)=BAD join(7,7)=BAD join(15,15)=BAD join(-1,-1)=BAD join(16,16)=BAD",
        "join(-1,0)=BAD join(0,16)=BAD");
    edge(18, "NO: one is empty", "join(6,7)=NO join(7,6)=NO join(7,8)=NO join(0,15)=NO join(15,0)=NO join(5,6)=0");
    edge(18, "of RULES of one ANSWER", "laid:1,000,0-0,1;2,000,1-1,1; join(0,1)=2 join(1,0)=2 laid:1,000,0-0,1;2,000,1-1,2; join(0,1)=0 join(1,0)=0");
    edge(18, "of RULES of one ANSWER (of one RULE, too)", "laid:1,000,7-8,1;2,0*0,1-2,1; join(0,1)=0 laid:1,000,1-2,1; join(0,1)=0 laid:1,000,5-8,1;",
        "count(1)=3 join(0,1)=0");
    edge(18, "unlike by just one sign", "laid:1,000,0-0,1;2,000,0-0,1;3,000,3-3,1;4,000,2-2,1;5,100,0-0,1; join(0,1)=0 join(0,2)=0 join(0,3)=2",
        "join(0,4)=2 join(2,3)=2 join(3,4)=0");
    // The rule behind them has the keys that are lost or won, so that the signs alone are against it.
    edge(18, "unlike by just one sign", "laid:1,000,0-0,1;2,000,3-3,1;3,000,0-3,1; join(0,1)=0 join(1,0)=0 laid:1,000,0-0,1;2,000,2-3,1;3,000,0-3,1;",
        "join(0,1)=0 join(1,0)=0 laid:1,000,0-0,1;2,000,3-3,1;3,***,0-15,1; join(0,1)=0 join(1,2)=0");
    edge(18, "that is no any in either", "laid:1,000,0-0,1;2,000,0-1,1;3,00*,0-0,1; join(0,1)=0 join(1,0)=0 join(0,2)=0 join(1,2)=0");
    edge(18, "2: in the lower one", "laid:1,000,0-0,1;3,000,1-1,1; move(0,15)=1 join(1,15)=2 join(15,1)=2");
    edge(18, "1: not, but in the higher one", "laid:1,000,0-0,1;2,000,1-1,2;3,000,1-1,1; join(0,2)=1 join(2,0)=1");
    edge(18, "0: not", "laid:1,000,0-0,1;2,000,0-1,2;3,000,1-1,1; join(0,2)=0 join(2,0)=0");
    // In the lower slot it would be against the order of 1 and 2, whose answers are alike.
    edge(18, "(IN ORDER or not)", "laid:1,000,0-0,1;2,000,1-1,1;3,000,1-1,1; join(0,2)=2 join(0,1)=2 join(1,2)=0");
    edge(18, "or none, for each KEY", "laid:1,0*0,0-0,1;2,1*0,0-0,1; join(0,1)=2 keys(0)=124");
  }

  private static void key() {
    edge(19, "BAD", "key(-1,0)=BAD key(128,0)=BAD key(0,-1)=BAD key(0,7)=BAD key(127,-1)=BAD key(127,7)=BAD key(127,6)=2");
    edge(19, "0 to 3: NONE", "key(15,0..3)=NONE key(15,4..5)=0 key(15,6)=2");
    edge(19, "(4; 0: none)", "laid:1,000,0-0,1; key(0,4)=1 key(1,4)=0 key(127,4)=0 laid:" + sixteenRules(), "key(0,4..5)=16 key(1,4..5)=0");
    edge(19, "ON are for a KEY the BLOCKS in which some ROW has a HEAD by which it could FIT the KEY (TAILS not looked at)",
        "laid:1,000,0-0,1; key(0..15,6)=1 key(16,6)=0 key(127,6)=0 move(0,15)=0 key(15,6)=8");
    edge(19, "BLOCKS that are ON, a bit each", "laid:" + sixteenRules(), "key(0..15,6)=15 key(16,6)=0 drop(0)=15 key(0,6)=15 drop(0)=14 drop(0)=13",
        "key(0,6)=15 drop(0)=12 key(0,6)=7");
    edge(19, "the ANSWER of THE TABLE, 0 is not NONE", "laid:1,000,0-0,0; key(0,0..3)=0 key(1,0..3)=NONE");
  }

  private static void keys() {
    edge(20, "BAD", "keys(-1)=BAD keys(5)=BAD keys(0)=32 keys(4)=4");
    edge(20, "how many have no ANSWER", "laid:1,000,0-0,0; keys(0)=127 laid:1,***,0-15,0; keys(0)=0 lay()=1 drop(0)=0 keys(0)=128");
    edge(20, "are ANSWERED otherwise by THE TABLE than by THE LIST", "keys(1)=0 add(15,222,0,15,9)=1 keys(1)=0 drop(0)=4 keys(1)=0 undo()=1",
        "keys(1)=0");
    edge(20, "BLOCKS ON together", "lay()=0 keys(2)=0 laid:1,***,0-0,0; keys(2)=128 laid:1,000,0-0,0; keys(2)=16 laid:" + SIXTEEN_ROWS,
        "keys(2)=512");
    edge(20, "the most ON for one", "lay()=0 keys(3)=0 laid:1,000,0-0,0; keys(3)=1 laid:" + SIXTEEN_ROWS, "keys(3)=4");
    edge(20, "how many different RULES ANSWER some by THE LIST", "lay()=0 keys(4)=0 laid:1,000,0-0,0;2,000,0-0,0;3,000,0-1,0; keys(4)=2",
        "laid:" + sixteenRules(), "keys(4)=1");
  }

  private static void count() {
    edge(21, "BAD", "count(-1)=BAD count(9)=BAD count(0)=4 count(8)=7");
    edge(21, "How many", "lay()=0 count(0..1)=0 count(2)=16 count(3..8)=0");
    edge(21, "How many", "laid:" + sixteenRules(), "count(0..1)=16 count(2)=0 count(3)=15 count(4)=16 count(5)=0 count(6)=198 count(7)=120",
        "count(8)=1");
    edge(21, "pairs of ROWS of unlike RULES that MEET", "laid:1,000,1-14,0; count(7)=0 add(2,0,0,15,0)=0 count(7)=6 add(3,1,0,15,0)=0 count(7)=6");
    edge(21, "different ROWS (by their signs)", "laid:1,000,0-0,0;2,000,0-0,5;3,00*,0-0,0;4,000,0-1,0; count(8)=3 drop(0)=3 count(8)=3 drop(0)=2",
        "count(8)=2");
    edge(21, "changes that can be UNDONE", "move(6,7) count(5)=1 move(7,8) move(8,9) move(9,10) count(5)=4 move(10,11) count(5)=5 move(11,12)",
        "count(5)=5");
  }

  // ---- empty, full, refused

  private static void emptyTable() {
    String empty = "lay()=0 ";
    edge(7, "RULES: such as there are", empty, "drop(0)=BAD drop(-1)=BAD");
    edge(8, "each empty or with a ROW (all empty)", empty, "purge()=0 count(5)=0");
    edge(9, "each empty or with a ROW (all empty)", empty, "pack()=0 count(5)=0");
    edge(10, "empty: there is no ROW", empty, "move(0..15,0..15)=NO");
    edge(12, "RULES: such as there are", empty, "rule(0,0..9)=BAD");
    edge(15, "each empty or with a ROW (all empty)", empty, "slot(0..15,0..3)=NONE");
    edge(16, "each empty or with a ROW (all empty)", empty, "reach(0..15,0..2)=NO");
    edge(17, "each empty or with a ROW (all empty)", empty, "meet(0,1..15)=NO meet(15,0..14)=NO meet(3,3)=BAD");
    edge(18, "each empty or with a ROW (all empty)", empty, "join(0,1..15)=NO join(15,0..14)=NO join(3,3)=BAD");
    edge(19, "each empty or with a ROW (all empty)", empty, "key(0..63,0..3)=NONE key(64..127,4..6)=0");
    edge(20, "each empty or with a ROW (all empty)", empty, "keys(0)=128 keys(1..4)=0");
    edge(6, "empty: each RULE comes in without a MOVE", empty, "add(50,222,1,14,1)=0 slot(0..5,0)=0 slot(6,0)=NONE undo()=0 count(1)=0",
        "add(0,0,0,0,0)=0 slot(0,0)=0");
  }

  private static void fullTable() {
    String full = "laid:" + SIXTEEN_ROWS;
    edge(10, "full: no SLOT is empty", full, "move(0..15,0..15)=NO count(5)=0");
    edge(16, "each empty or with a ROW (none empty)", full, "reach(0..15,0..1)=NONE reach(0..15,2)=0");
    edge(6, "each empty or with a ROW (none empty)", full, "add(0,0,0,0,0)=FULL add(99,0,0,0,0)=FULL add(1,0,0,0,0)=NO add(0,0,0,0,10)=BAD");
    edge(13, "each empty or with a ROW (none empty)", full, "would(0,0,0,0)=FULL would(99,0,0,0)=FULL would(1,0,0,0)=NO would(0,0,0,16)=BAD");
    edge(9, "each empty or with a ROW (none empty)", full, "pack()=0 count(5)=0");
    edge(8, "each empty or with a ROW (none empty)", full, "purge()=2 count(1)=6 count(0)=1 undo()=0 count(1)=16");
    edge(7, "each empty or with a ROW (none empty)", full, "drop(2)=2 count(2)=4 add(4,222,1,9,4)=0 count(2)=0 undo()=1 undo()=0 count(2)=0",
        "slot(15,0)=2");
    edge(21, "each empty or with a ROW (none empty)", full, "count(2)=0 count(1)=16 drop(0)=2 count(2)=6");
  }

  private static void ofSeveralTheFirstTold() {
    String sentence = "Of several the first in the order told";
    edge(2, sentence, "write(48) ".repeat(200), "write(-1)=BAD write(127)=BAD");
    edge(6, sentence, "add(10,0,0,0,10)=BAD add(10,0,0,16,0)=BAD add(10,0,1,0,0)=BAD add(10,223,0,0,0)=BAD laid:" + SIXTEEN_ROWS, "add(1,0,0,0,-1)=BAD",
        "add(1,0,0,0,0)=NO add(4,0,0,0,0)=FULL add(4,0,0,0,10)=BAD");
    edge(10, sentence, "move(7,16)=BAD move(-1,0)=BAD move(16,0)=BAD move(15,-1)=BAD");
    edge(14, sentence, "moved(0,2)=BAD moved(0,-1)=BAD moved(99,2)=BAD moved(-2,0)=BAD");
    edge(15, sentence, "slot(15,4)=BAD slot(15,-1)=BAD slot(16,4)=BAD");
    edge(16, sentence, "reach(15,3)=BAD reach(15,-1)=BAD reach(0,3)=BAD");
    edge(17, sentence, "meet(15,16)=BAD meet(15,15)=BAD meet(-1,15)=BAD");
    edge(18, sentence, "join(15,16)=BAD join(15,15)=BAD join(-1,15)=BAD");
    edge(19, sentence, "key(15,7)=BAD key(15,-1)=BAD");
  }

  private static void nothingChangesThen() {
    String sentence = "nothing changes then";
    String changed = "laid:" + CHAIN + " add(25,222,0,15,0) move(5,12) write(32)";
    String manyChanges = "move(6,7) move(7,8) move(8,9) move(9,10) add(15,222,0,15,9) drop(1) write(32)";
    String[][] refused = {
        {"6", "add(100,0,0,0,0)=BAD"}, {"6", "add(1,223,0,0,0)=BAD"}, {"6", "add(1,0,0,16,0)=BAD"}, {"6", "add(1,0,0,0,10)=BAD"},
        {"7", "drop(-1)=BAD"}, {"7", "drop(16)=BAD"}, {"10", "move(0,16)=BAD"}, {"10", "move(-1,15)=BAD"}, {"10", "move(0,1)=NO"}, {"10", "move(15,14)=NO"},
        {"12", "rule(16,0)=BAD"}, {"12", "rule(0,10)=BAD"}, {"13", "would(100,0,0,0)=BAD"}, {"14", "moved(-2,0)=BAD"}, {"14", "moved(18,0)=NONE"},
        {"15", "slot(16,0)=BAD"}, {"15", "slot(15,0)=NONE"}, {"16", "reach(16,0)=BAD"}, {"16", "reach(15,0)=NO"}, {"17", "meet(0,0)=BAD"}, {"17", "meet(0,15)=NO"},
        {"18", "join(0,0)=BAD"}, {"18", "join(0,15)=NO"}, {"19", "key(128,0)=BAD"}, {"20", "keys(5)=BAD"}, {"21", "count(9)=BAD"}};
    for (String[] r : refused) {
      leavesAll(Integer.parseInt(r[0]), sentence, changed, r[1]);
      leavesAll(Integer.parseInt(r[0]), sentence, manyChanges, r[1]);
      leavesAll(Integer.parseInt(r[0]), sentence, "write(49)", r[1]);
    }
    leavesAll(6, sentence, changed, "add(25,222,0,15,0)=NO");
    leavesAll(6, sentence, changed, "add(5,222,0,15,0)=FULL");
    leavesAll(6, sentence, "laid:1,***,1-14,1;2,***,1-14,2; move(11,15) write(32)", "add(60,222,1,14,0)=FULL");
    leavesAll(6, sentence, "laid:" + SIXTEEN_ROWS, "add(60,222,0,15,0)=FULL");
    leavesAll(6, sentence, "laid:10,***,8-8,1;20,***,8-8,1;30,***,8-8,1;40,***,8-8,1;60,***,7-7,1; move(4,9)", "add(5,0,7,8,1)=FULL");
    leavesAll(7, sentence, "lay() add(0..15,0,0,0,0)", "drop(16)=BAD");
    leavesAll(7, sentence, "lay()", "drop(0)=BAD");
    leavesAll(10, sentence, changed, "move(0,15)=NO");
    leavesAll(10, sentence, changed, "move(12,0)=NO");
    leavesAll(10, sentence, "laid:" + SIXTEEN_ROWS, "move(0,15)=NO");
    leavesAll(16, sentence, changed, "reach(0,0)=NONE");
  }

  private static void askingChangesNothing() {
    String changed = "laid:" + CHAIN + " add(25,222,0,15,0) move(5,12) drop(0) write(32)";
    String[][] asked = {{"4", "fault()=70"}, {"12", "rule(0,9)=0"}, {"13", "would(27,222,7,8)=4"}, {"14", "moved(2,1)=3"}, {"15", "slot(1,3)=128"}, {"16", "reach(12,1)=15"},
        {"17", "meet(1,2)=1"}, {"18", "join(1,2)=0"}, {"19", "key(0,0)=2"}, {"20", "keys(2)=384"}, {"21", "count(7)=10"}};
    for (String[] a : asked) leavesAll(Integer.parseInt(a[0]), "to ask changes nothing", changed, a[1]);
    leavesAll(18, "to ask changes nothing", "laid:1,000,0-0,1;2,000,1-1,2;3,000,1-1,1; move(2,3)", "join(0,3)=1");
    leavesAll(18, "to ask changes nothing", "laid:1,000,0-0,1;2,000,1-1,1; move(1,3)", "join(0,3)=2");
  }

  /** Numbers that a short, a byte or a wrap-around would make into others that are told. */
  private static void numbersFarOff() {
    for (String far : new String[] {"-2147483648", "-2147483647", "2147483647", "-65536", "65536", "256", "-256", "1073741824", "-1073741824"}) {
      edge(2, "BAD: a number is none that is told", "write(" + far + ")=BAD");
      edge(6, "BAD: a number is none that is told", "add(" + far + ",0,0,0,0)=BAD add(1," + far + ",0,0,0)=BAD add(1,0," + far + ",15,0)=BAD",
        "add(1,0,0," + far + ",0)=BAD",
          "add(1,0," + far + "," + far + ",0)=BAD add(1,0,0,0," + far + ")=BAD add(1,0,-2147483648,2147483647,0)=BAD count(0)=4");
      edge(7, "BAD: a number is none that is told", "drop(" + far + ")=BAD");
      edge(10, "BAD: a number is none that is told", "move(" + far + ",7)=BAD move(6," + far + ")=BAD count(5)=0");
      edge(12, "BAD: a number is none that is told", "rule(" + far + ",0)=BAD rule(0," + far + ")=BAD");
      edge(13, "BAD: a number is none that is told", "would(" + far + ",0,0,0)=BAD would(1," + far + ",0,0)=BAD would(1,0," + far + ",15)=BAD",
        "would(1,0,0," + far + ")=BAD");
      edge(14, "BAD (i below -1); NONE: not so many", "moved(" + far + ",0..1)=" + (far.startsWith("-") ? "BAD" : "NONE"),
        "moved(0," + far + ")=BAD");
      edge(15, "BAD: a number is none that is told", "slot(" + far + ",0)=BAD slot(0," + far + ")=BAD");
      edge(16, "BAD: a number is none that is told", "reach(" + far + ",0)=BAD reach(0," + far + ")=BAD");
      edge(17, "BAD: a number is none that is told", "meet(" + far + ",0)=BAD meet(0," + far + ")=BAD meet(" + far + "," + far + ")=BAD");
      edge(18, "BAD: a number is none that is told", "join(" + far + ",0)=BAD join(0," + far + ")=BAD join(" + far + "," + far + ")=BAD");
      edge(19, "BAD: a number is none that is told", "key(" + far + ",0)=BAD key(0," + far + ")=BAD");
      edge(20, "BAD: a number is none that is told", "keys(" + far + ")=BAD");
      edge(21, "BAD: a number is none that is told", "count(" + far + ")=BAD");
    }
  }
}
