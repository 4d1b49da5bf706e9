import java.util.ArrayDeque;
import java.util.ArrayList;
import java.util.Arrays;
import java.util.Deque;
import java.util.HashSet;
import java.util.List;
import java.util.Random;
import java.util.Set;
import java.util.TreeMap;
import java.util.regex.Matcher;
import java.util.regex.Pattern;

/**
 * Runs of calls, drawn by fixed seeds, on a ContentRows and on a model that follows the words of the
 * document with sets of keys and texts of signs, without any of the class's short cuts.
 */
public final class ModelTest {
  private static final int CALLS = 512;
  private static int wrong = 0;

  public static void main(String[] args) {
    int runs = args.length > 0 ? Integer.parseInt(args[0]) : 240;
    int first = args.length > 1 ? Integer.parseInt(args[1]) : 1;
    for (int seed = first; seed < first + runs; seed++) {
      new Run(seed).go();
    }
    System.out.println(wrong == 0 ? "all answers are the model's" : wrong + " runs are not the model's");
    if (wrong != 0) System.exit(1);
  }

  /** One run on one new object; it stops at the first answer that is not the model's. */
  private static final class Run {
    final int seed;
    final Random random;
    final ContentRows x = new ContentRows();
    final Model m = new Model();
    final List<String> calls = new ArrayList<>();
    boolean stopped = false;
    /** How many of the signs of a head are any, of ten. */
    final int anyOfTen;

    Run(int seed) {
      this.seed = seed;
      this.random = new Random(seed);
      this.anyOfTen = 1 + random.nextInt(9);
    }

    void go() {
      if (seed % 3 == 0) tell(text());
      while (calls.size() < CALLS && !stopped) {
        step();
      }
    }

    void same(String call, int got, int want) {
      if (stopped || calls.size() >= CALLS) return;
      calls.add(call + " = " + got);
      if (got != want) {
        stopped = true;
        wrong++;
        System.out.println("seed " + seed + ": " + call + " answered " + got + ", the model " + want);
        for (String c : calls) System.out.println("    " + c);
      }
    }

    void step() {
      int kind = random.nextInt(100);
      if (kind < 30) add();
      else if (kind < 38) drop();
      else if (kind < 41) same("purge()", x.purge(), m.purge());
      else if (kind < 44) same("pack()", x.pack(), m.pack());
      else if (kind < 56) move();
      else if (kind < 64) same("undo()", x.undo(), m.undo());
      else if (kind < 66) tell(text());
      else look(1 + random.nextInt(8));
    }

    int edge(int below, int above) {
      return random.nextInt(12) == 0 ? (random.nextBoolean() ? below : above) : below + 1 + random.nextInt(above - below - 1);
    }

    int head() {
      if (random.nextInt(30) == 0) return random.nextInt(400) - 100;
      int h = 0;
      for (int i = 0; i < 3; i++) h = h * 10 + (random.nextInt(10) < anyOfTen ? 2 : random.nextInt(2));
      return h;
    }

    int rank() {
      return random.nextInt(25) == 0 ? random.nextInt(140) - 20 : random.nextInt(100);
    }

    void add() {
      int rank = rank();
      int head = head();
      int a = edge(-1, 16);
      int b = random.nextInt(4) == 0 ? a : edge(-1, 16);
      int from = random.nextInt(20) == 0 ? a : Math.min(a, b);
      int to = from == a ? b : a;
      int answer = random.nextInt(25) == 0 ? random.nextInt(30) - 10 : random.nextInt(3);
      if (random.nextInt(3) == 0) {
        same("would(" + rank + ", " + head + ", " + from + ", " + to + ")",
            x.would(rank, head, from, to), m.would(rank, head, from, to));
      }
      int got = x.add(rank, head, from, to, answer);
      same("add(" + rank + ", " + head + ", " + from + ", " + to + ", " + answer + ")", got,
          m.add(rank, head, from, to, answer));
      if (got > 0) {
        for (int i = -1; i <= got; i++) {
          same("moved(" + i + ", 0)", x.moved(i, 0), m.moved(i, 0));
          same("moved(" + i + ", 1)", x.moved(i, 1), m.moved(i, 1));
        }
      }
    }

    void drop() {
      int r = random.nextInt(8) == 0 ? random.nextInt(20) - 2 : random.nextInt(Math.max(1, m.rules.size()));
      same("drop(" + r + ")", x.drop(r), m.drop(r));
    }

    void move() {
      int from = edge(-1, 16);
      if (random.nextInt(2) == 0) {
        same("reach(" + from + ", 1)", x.reach(from, 1), m.reach(from, 1));
      }
      int to = edge(-1, 16);
      same("move(" + from + ", " + to + ")", x.move(from, to), m.move(from, to));
    }

    /** Writes a text behind what is there or anew, asks for its fault and lays it. */
    void tell(String text) {
      if (random.nextInt(5) > 0) same("wipe()", x.wipe(), m.wipe());
      for (char c : text.toCharArray()) {
        same("write(" + (int) c + ")", x.write(c), m.write(c));
      }
      if (random.nextInt(4) == 0) {
        int letter = random.nextInt(160) - 16;
        same("write(" + letter + ")", x.write(letter), m.write(letter));
      }
      same("fault()", x.fault(), m.fault());
      same("lay()", x.lay(), m.lay());
      look(4);
    }

    String text() {
      StringBuilder text = new StringBuilder();
      int rules = random.nextInt(7);
      for (int i = 0; i < rules; i++) {
        int a = random.nextInt(16);
        int b = Math.min(15, a + random.nextInt(random.nextBoolean() ? 2 : 8));
        text.append(random.nextInt(random.nextBoolean() ? 10 : 100)).append(',');
        for (int s = 0; s < 3; s++) text.append(random.nextInt(10) < anyOfTen ? '*' : random.nextBoolean() ? '0' : '1');
        text.append(',');
        if (a < 10 && random.nextInt(5) == 0) text.append('0');
        text.append(a).append('-').append(b).append(',').append(random.nextInt(3)).append(';');
      }
      if (text.length() > 0 && random.nextInt(3) == 0) {
        String letters = "019*,-; 2";
        text.setCharAt(random.nextInt(text.length()), letters.charAt(random.nextInt(letters.length())));
      }
      return text.toString();
    }

    void look(int times) {
      for (int i = 0; i < times; i++) lookOnce();
    }

    void lookOnce() {
      int a = edge(-1, 16);
      int b = edge(-1, 16);
      int r = edge(-1, Math.max(m.rules.size(), 1));
      int k = edge(-1, 128);
      switch (random.nextInt(10)) {
        case 0: { int w = edge(-1, 10); same("rule(" + r + ", " + w + ")", x.rule(r, w), m.rule(r, w)); break; }
        case 1: { int w = edge(-1, 2); int i = random.nextInt(22) - 2; same("moved(" + i + ", " + w + ")", x.moved(i, w), m.moved(i, w)); break; }
        case 2: { int w = edge(-1, 4); same("slot(" + a + ", " + w + ")", x.slot(a, w), m.slot(a, w)); break; }
        case 3: { int w = edge(-1, 3); same("reach(" + a + ", " + w + ")", x.reach(a, w), m.reach(a, w)); break; }
        case 4: same("meet(" + a + ", " + b + ")", x.meet(a, b), m.meet(a, b)); break;
        case 5: case 6: lookAtJoins(a); break;
        case 7: { int w = edge(-1, 7); same("key(" + k + ", " + w + ")", x.key(k, w), m.key(k, w)); break; }
        case 8: { int w = edge(-1, 5); same("keys(" + w + ")", x.keys(w), m.keys(w)); break; }
        default: { int w = edge(-1, 9); same("count(" + w + ")", x.count(w), m.count(w)); break; }
      }
    }

    /** Of the pairs with one slot, first one that could be joined, since few can. */
    void lookAtJoins(int a) {
      int b = random.nextInt(16);
      for (int s = 0; s < 16; s++) {
        for (int t = 0; t < 16 && random.nextInt(3) > 0; t++) {
          if (m.join(s, t) > 0) { a = s; b = t; }
        }
      }
      same("join(" + a + ", " + b + ")", x.join(a, b), m.join(a, b));
    }
  }

  /** The document's words, one by one. */
  private static final class Model {
    record Rule(int rank, String head, int from, int to, int answer) { }
    record Row(Rule rule, int which, String signs, Set<Integer> keys) { }
    record State(List<Rule> rules, Row[] table) { }

    List<Rule> rules = new ArrayList<>();
    Row[] table = new Row[16];
    String text = "10,1*0,3-12,1;20,***,0-7,2;5,01*,6-6,3;30,1**,8-15,4;";
    Deque<State> changes = new ArrayDeque<>();
    List<int[]> lastMoves = new ArrayList<>();

    Model() {
      lay();
      text = "";
    }

    // what the words mean

    static boolean isSignOf(char sign, int k, int bit) {
      return sign == '*' || (sign == '1') == ((k >> bit & 1) == 1);
    }

    static boolean has(Rule rule, int k) {
      for (int i = 0; i < 3; i++) if (!isSignOf(rule.head().charAt(i), k, 6 - i)) return false;
      return k % 16 >= rule.from() && k % 16 <= rule.to();
    }

    static boolean fits(String signs, int k) {
      for (int i = 0; i < 7; i++) if (!isSignOf(signs.charAt(i), k, 6 - i)) return false;
      return true;
    }

    static Row row(Rule rule, int which, String signs) {
      Set<Integer> keys = new HashSet<>();
      for (int k = 0; k < 128; k++) if (fits(signs, k)) keys.add(k);
      return new Row(rule, which, signs, keys);
    }

    /** The fewest pieces, tried in every way: {first tail, how many} each. */
    static List<int[]> pieces(int from, int to) {
      if (from > to) return new ArrayList<>();
      List<int[]> best = null;
      for (int size = 1; size <= 16; size *= 2) {
        if (from % size != 0 || from + size - 1 > to) continue;
        List<int[]> rest = pieces(from + size, to);
        rest.add(0, new int[] {from, size});
        if (best == null || rest.size() < best.size()) best = rest;
      }
      return best;
    }

    static List<Row> rows(Rule rule) {
      List<Row> rows = new ArrayList<>();
      for (int[] piece : pieces(rule.from(), rule.to())) {
        StringBuilder signs = new StringBuilder(rule.head());
        for (int bit = 3; bit >= 0; bit--) {
          boolean zero = false;
          boolean one = false;
          for (int t = piece[0]; t < piece[0] + piece[1]; t++) {
            if ((t >> bit & 1) == 1) one = true; else zero = true;
          }
          signs.append(zero && one ? '*' : one ? '1' : '0');
        }
        rows.add(row(rule, rows.size(), signs.toString()));
      }
      return rows;
    }

    static boolean meets(Row a, Row b) {
      for (int k : a.keys()) if (b.keys().contains(k)) return true;
      return false;
    }

    static boolean inOrder(Row[] table) {
      for (int a = 0; a < 16; a++) {
        for (int b = a + 1; b < 16; b++) {
          if (table[a] == null || table[b] == null || table[a].rule() == table[b].rule()) continue;
          if (table[a].rule().rank() > table[b].rule().rank() && meets(table[a], table[b])) return false;
        }
      }
      return true;
    }

    static Row[] packed(List<Rule> rules) {
      TreeMap<Integer, Rule> byRank = new TreeMap<>();
      for (Rule rule : rules) byRank.put(rule.rank(), rule);
      List<Row> rows = new ArrayList<>();
      for (Rule rule : byRank.values()) rows.addAll(rows(rule));
      return rows.size() > 16 ? null : rows.toArray(new Row[16]);
    }

    Rule listAnswers(List<Rule> list, int k) {
      Rule best = null;
      for (Rule rule : list) if (has(rule, k) && (best == null || rule.rank() < best.rank())) best = rule;
      return best;
    }

    static int tableAnswers(Row[] table, int k) {
      for (int s = 0; s < 16; s++) if (table[s] != null && table[s].keys().contains(k)) return s;
      return -4;
    }

    static int answer(Row[] table, int k) {
      int s = tableAnswers(table, k);
      return s < 0 ? -4 : table[s].rule().answer();
    }

    boolean covered(Rule rule) {
      for (int k = 0; k < 128; k++) {
        boolean lower = false;
        for (Rule other : rules) lower |= other.rank() < rule.rank() && has(other, k);
        if (has(rule, k) && !lower) return false;
      }
      return true;
    }

    boolean idle(Rule rule) {
      List<Rule> without = new ArrayList<>(rules);
      without.remove(rule);
      for (int k = 0; k < 128; k++) {
        Rule now = listAnswers(rules, k);
        Rule then = listAnswers(without, k);
        if ((now == null ? -4 : now.answer()) != (then == null ? -4 : then.answer())) return false;
      }
      return true;
    }

    Set<Integer> on(int k) {
      Set<Integer> blocks = new HashSet<>();
      for (int s = 0; s < 16; s++) {
        if (table[s] != null && fits(table[s].signs().substring(0, 3) + "****", k)) blocks.add(s / 4);
      }
      return blocks;
    }

    void remember() {
      changes.addLast(new State(new ArrayList<>(rules), table.clone()));
      if (changes.size() > 5) changes.removeFirst();
    }

    boolean noSlot(int s) {
      return s < 0 || s > 15;
    }

    static String signs(int head) {
      String figures = String.format("%03d", head);
      return figures.replace('2', '*');
    }

    static int figures(String signs) {
      return Integer.parseInt(signs.replace('*', '2'));
    }

    // the calls

    int write(int letter) {
      if (letter < 32 || letter > 126) return -1;
      if (text.length() == 200) return -3;
      text += (char) letter;
      return text.length();
    }

    int wipe() {
      int length = text.length();
      text = "";
      return length;
    }

    /** The rules that are told, up to the first fault. */
    List<Rule> told(int[] end) {
      Pattern pattern = Pattern.compile("([0-9]{1,2}),([01*]{3}),([0-9]{1,2})-([0-9]{1,2}),([0-9]);");
      Matcher matcher = pattern.matcher(text);
      List<Rule> list = new ArrayList<>();
      Set<Integer> ranks = new HashSet<>();
      int at = 0;
      while (at < text.length() && matcher.region(at, text.length()).lookingAt()) {
        int[] n = {Integer.parseInt(matcher.group(1)), Integer.parseInt(matcher.group(3)),
            Integer.parseInt(matcher.group(4)), Integer.parseInt(matcher.group(5))};
        if (n[1] > n[2] || n[2] > 15 || !ranks.add(n[0])) break;
        list.add(new Rule(n[0], matcher.group(2), n[1], n[2], n[3]));
        at = matcher.end();
      }
      end[0] = at;
      return list;
    }

    int fault() {
      int[] end = new int[1];
      told(end);
      return end[0] < text.length() ? end[0] : -4;
    }

    int lay() {
      List<Rule> list = told(new int[1]);
      if (fault() != -4 || packed(list) == null) return -2;
      rules = list;
      table = packed(list);
      changes.clear();
      lastMoves = new ArrayList<>();
      return rules.size();
    }

    boolean badRule(int rank, int head, int from, int to) {
      return rank < 0 || rank > 99 || head < 0 || !String.format("%03d", head).matches("[012]{3}")
          || from < 0 || to > 15 || from > to;
    }

    /** Makes the moves and lets the row come in, or tells that it cannot by just so many moves. */
    static boolean comesIn(Row[] table, Row row, int moves, List<int[]> made) {
      if (moves == 0) {
        for (int s = 0; s < 16; s++) {
          if (table[s] != null) continue;
          table[s] = row;
          if (inOrder(table)) return true;
          table[s] = null;
        }
        return false;
      }
      for (int from = 0; from < 16; from++) {
        for (int to = 0; to < 16; to++) {
          if (table[from] == null || table[to] != null) continue;
          table[to] = table[from];
          table[from] = null;
          made.add(new int[] {from, to});
          if (inOrder(table) && comesIn(table, row, moves - 1, made)) return true;
          made.remove(made.size() - 1);
          table[from] = table[to];
          table[to] = null;
        }
      }
      return false;
    }

    static boolean comesIn(Row[] table, Rule rule, List<int[]> made) {
      for (Row row : rows(rule)) {
        boolean in = false;
        for (int moves = 0; moves <= 3 && !in; moves++) in = comesIn(table, row, moves, made);
        if (!in) return false;
      }
      return true;
    }

    int add(int rank, int head, int from, int to, int answer) {
      if (badRule(rank, head, from, to) || answer < 0 || answer > 9) return -1;
      for (Rule rule : rules) if (rule.rank() == rank) return -2;
      Rule rule = new Rule(rank, signs(head), from, to, answer);
      List<int[]> moves = new ArrayList<>();
      Row[] with = table.clone();
      if (!comesIn(with, rule, moves)) return -3;
      remember();
      table = with;
      rules.add(rule);
      lastMoves = moves;
      return moves.size();
    }

    int would(int rank, int head, int from, int to) {
      if (badRule(rank, head, from, to)) return -1;
      for (Rule rule : rules) if (rule.rank() == rank) return -2;
      List<int[]> moves = new ArrayList<>();
      return comesIn(table.clone(), new Rule(rank, signs(head), from, to, 0), moves) ? moves.size() : -3;
    }

    void remove(Rule rule) {
      rules.remove(rule);
      for (int s = 0; s < 16; s++) if (table[s] != null && table[s].rule() == rule) table[s] = null;
    }

    int drop(int r) {
      if (r < 0 || r >= rules.size()) return -1;
      remember();
      remove(rules.get(r));
      return rules.size();
    }

    int purge() {
      List<Rule> gone = new ArrayList<>();
      for (Rule rule : rules) if (covered(rule)) gone.add(rule);
      if (!gone.isEmpty()) remember();
      for (Rule rule : gone) remove(rule);
      return gone.size();
    }

    int pack() {
      Row[] packed = packed(rules);
      int others = 0;
      for (int s = 0; s < 16; s++) {
        for (int t = 0; t < 16; t++) {
          if (table[s] != null && packed[t] != null && s != t && table[s].rule() == packed[t].rule()
              && table[s].which() == packed[t].which()) others++;
        }
      }
      if (others > 0) {
        remember();
        table = packed;
      }
      return others;
    }

    boolean canMove(int from, int to) {
      if (table[from] == null || table[to] != null) return false;
      Row[] then = table.clone();
      then[to] = then[from];
      then[from] = null;
      return inOrder(then);
    }

    int move(int from, int to) {
      if (noSlot(from) || noSlot(to)) return -1;
      if (!canMove(from, to)) return -2;
      remember();
      int passed = 0;
      for (int s = 0; s < 16; s++) {
        if (table[s] != null && (from < s && s < to || to < s && s < from)) passed++;
      }
      table[to] = table[from];
      table[from] = null;
      return passed;
    }

    int undo() {
      if (changes.isEmpty()) return -2;
      State state = changes.removeLast();
      rules = state.rules();
      table = state.table();
      return changes.size();
    }

    int rule(int r, int what) {
      if (r < 0 || r >= rules.size() || what < 0 || what > 9) return -1;
      Rule rule = rules.get(r);
      int has = 0;
      int answered = 0;
      for (int k = 0; k < 128; k++) {
        if (has(rule, k)) has++;
        if (listAnswers(rules, k) == rule) answered++;
      }
      return new int[] {rule.rank(), figures(rule.head()), rule.from(), rule.to(), rule.answer(), rows(rule).size(),
          has, answered, covered(rule) ? 1 : 0, idle(rule) ? 1 : 0}[what];
    }

    int moved(int i, int what) {
      if (i < -1 || what < 0 || what > 1) return -1;
      if (i == -1) return lastMoves.size();
      return i < lastMoves.size() ? lastMoves.get(i)[what] : -4;
    }

    int slot(int s, int what) {
      if (noSlot(s) || what < 0 || what > 3) return -1;
      if (table[s] == null) return -4;
      int answered = 0;
      for (int k = 0; k < 128; k++) if (tableAnswers(table, k) == s) answered++;
      return new int[] {rules.indexOf(table[s].rule()), table[s].which(), figures(table[s].signs()), answered}[what];
    }

    int reach(int s, int which) {
      if (noSlot(s) || which < 0 || which > 2) return -1;
      if (table[s] == null) return -2;
      int[] reach = {-4, -4, 0};
      for (int t = 0; t < 16; t++) {
        if (!canMove(s, t)) continue;
        if (reach[2] == 0) reach[0] = t;
        reach[1] = t;
        reach[2]++;
      }
      return reach[which];
    }

    int meet(int a, int b) {
      if (noSlot(a) || noSlot(b) || a == b) return -1;
      if (table[a] == null || table[b] == null) return -2;
      return meets(table[a], table[b]) ? 1 : 0;
    }

    int join(int a, int b) {
      if (noSlot(a) || noSlot(b) || a == b) return -1;
      if (table[a] == null || table[b] == null) return -2;
      if (table[a].rule().answer() != table[b].rule().answer()) return 0;
      int unlike = 0;
      StringBuilder joined = new StringBuilder(table[a].signs());
      for (int i = 0; i < 7; i++) {
        char p = table[a].signs().charAt(i);
        char q = table[b].signs().charAt(i);
        if (p == q) continue;
        unlike++;
        if (p == '*' || q == '*') return 0;
        joined.setCharAt(i, '*');
      }
      if (unlike != 1) return 0;
      for (int value = 2; value > 0; value--) {
        int kept = value == 2 ? Math.min(a, b) : Math.max(a, b);
        Row[] then = table.clone();
        then[a] = null;
        then[b] = null;
        then[kept] = row(table[a].rule(), 0, joined.toString());
        boolean same = true;
        for (int k = 0; k < 128; k++) same &= answer(table, k) == answer(then, k);
        if (same) return value;
      }
      return 0;
    }

    int key(int k, int what) {
      if (k < 0 || k > 127 || what < 0 || what > 6) return -1;
      int s = tableAnswers(table, k);
      Rule list = listAnswers(rules, k);
      int fit = 0;
      int have = 0;
      int bits = 0;
      for (Row row : table) if (row != null && fits(row.signs(), k)) fit++;
      for (Rule rule : rules) if (has(rule, k)) have++;
      for (int block : on(k)) bits += 1 << block;
      return new int[] {answer(table, k), list == null ? -4 : list.answer(), s,
          s < 0 ? -4 : rules.indexOf(table[s].rule()), fit, have, bits}[what];
    }

    int keys(int what) {
      if (what < 0 || what > 4) return -1;
      int[] told = new int[5];
      Set<Rule> answering = new HashSet<>();
      for (int k = 0; k < 128; k++) {
        int s = tableAnswers(table, k);
        Rule list = listAnswers(rules, k);
        if (s < 0) told[0]++;
        if ((s < 0 ? null : table[s].rule()) != list) told[1]++;
        told[2] += on(k).size();
        told[3] = Math.max(told[3], on(k).size());
        if (list != null) answering.add(list);
      }
      told[4] = answering.size();
      return told[what];
    }

    int count(int what) {
      if (what < 0 || what > 8) return -1;
      int[] told = new int[9];
      Set<String> different = new HashSet<>();
      told[0] = rules.size();
      for (Rule rule : rules) {
        told[1] += rows(rule).size();
        if (covered(rule)) told[3]++;
        if (idle(rule)) told[4]++;
      }
      told[2] = (int) Arrays.stream(table).filter(row -> row == null).count();
      told[5] = changes.size();
      told[6] = text.length();
      for (int a = 0; a < 16; a++) {
        if (table[a] != null) different.add(table[a].signs());
        for (int b = 0; b < a; b++) {
          if (table[a] != null && table[b] != null && table[a].rule() != table[b].rule() && meets(table[a], table[b])) told[7]++;
        }
      }
      told[8] = different.size();
      return told[what];
    }
  }
}
