import java.util.ArrayList;
import java.util.List;
import java.util.Random;
import java.util.TreeSet;

/** Runs of at most 512 calls, each answer looked at against a plain model of the document. */
public final class ModelTest {
  private static final int RUNS = 4000;
  private static final int CALLS = 512;
  private static final Checks CHECKS = new Checks();

  /** What the document says, without any thought of speed or room. */
  private static final class Model {
    static final int MANY = 20;

    static final class Entry {
      int pack;
      int way;
      int kind;
      int duties;
      int from;
    }

    final List<Long> words = new ArrayList<>();
    final int[][] kinds = new int[16][3];
    final int[][] duties = new int[16][3];
    final boolean[][] lifted = new boolean[8][3];
    final List<List<TreeSet<Integer>>> forms = new ArrayList<>();
    final List<List<int[]>> uses = new ArrayList<>();
    final List<Integer> grants = new ArrayList<>();
    List<Entry> entries = new ArrayList<>();
    String text = "";
    int clock = 0;

    int at;
    int ill;
    boolean many;

    int licence(long w) {
      if (words.size() == 16) {
        return -1;
      }
      words.add(w);
      return words.size() - 1;
    }

    boolean isPack(int p) {
      return p >= 0 && p < forms.size();
    }

    boolean isWay(int w) {
      return w >= 0 && w <= 2;
    }

    boolean rule(int l, int w, int kind, int d) {
      if (l < 0 || l >= words.size() || !isWay(w) || kind < 0 || kind > 2) {
        return false;
      }
      if (kind == 1 && d % 256 == 0) {
        return false;
      }
      kinds[l][w] = kind;
      duties[l][w] = kind == 1 ? Math.floorMod(d, 256) : 0;
      return true;
    }

    boolean lifts(int e, int w, boolean on) {
      if (e < 0 || e > 7 || !isWay(w)) {
        return false;
      }
      lifted[e][w] = on;
      return true;
    }

    boolean type(char c) {
      if (c < 32 || c > 126 || text.length() == 60) {
        return false;
      }
      text += c;
      return true;
    }

    int pack() {
      if (forms.size() == 16) {
        return -1;
      }
      forms.add(null);
      uses.add(new ArrayList<>());
      grants.add(null);
      return forms.size() - 1;
    }

    char next() {
      while (at < text.length() && text.charAt(at) == ' ') {
        at++;
      }
      return at < text.length() ? text.charAt(at) : 0;
    }

    boolean isIll() {
      return ill >= 0;
    }

    List<TreeSet<Integer>> none() {
      if (ill < 0) {
        ill = at;
      }
      return null;
    }

    List<TreeSet<Integer>> atom(int open) {
      char c = next();
      if (c == '(') {
        if (open == 10) {
          return none();
        }
        at++;
        List<TreeSet<Integer>> inside = either(open + 1);
        if (isIll()) {
          return null;
        }
        if (next() != ')') {
          return none();
        }
        at++;
        return inside;
      }
      if (c < 'a' || c >= 'a' + words.size()) {
        return none();
      }
      at++;
      int code = 9 * (c - 'a');
      if (next() == '^') {
        at++;
        char d = next();
        if (d < '0' || d > '7') {
          return none();
        }
        at++;
        code += d - '0' + 1;
      }
      return new ArrayList<>(List.of(new TreeSet<>(List.of(code))));
    }

    List<TreeSet<Integer>> thin(List<TreeSet<Integer>> row) {
      List<TreeSet<Integer>> left = new ArrayList<>();
      for (int i = 0; i < row.size(); i++) {
        boolean out = false;
        for (int k = 0; k < row.size(); k++) {
          boolean like = row.get(i).equals(row.get(k));
          out |= k != i && row.get(i).containsAll(row.get(k)) && (!like || k < i);
        }
        if (!out) {
          left.add(row.get(i));
        }
      }
      if (left.size() > MANY) {
        many = true;
        left = new ArrayList<>(left.subList(0, MANY));
      }
      return left;
    }

    List<TreeSet<Integer>> also(int open) {
      List<TreeSet<Integer>> a = atom(open);
      while (!isIll() && next() == '&') {
        at++;
        List<TreeSet<Integer>> b = atom(open);
        if (isIll()) {
          return null;
        }
        List<TreeSet<Integer>> joined = new ArrayList<>();
        for (TreeSet<Integer> x : a) {
          for (TreeSet<Integer> y : b) {
            TreeSet<Integer> both = new TreeSet<>(x);
            both.addAll(y);
            joined.add(both);
          }
        }
        a = thin(joined);
      }
      return a;
    }

    List<TreeSet<Integer>> either(int open) {
      List<TreeSet<Integer>> a = also(open);
      while (!isIll() && next() == '|') {
        at++;
        List<TreeSet<Integer>> b = also(open);
        if (isIll()) {
          return null;
        }
        List<TreeSet<Integer>> row = new ArrayList<>(a);
        row.addAll(b);
        a = thin(row);
      }
      return a;
    }

    int express(int p) {
      at = 0;
      ill = -1;
      many = false;
      List<TreeSet<Integer>> form = either(0);
      if (!isIll() && next() != 0) {
        none();
      }
      text = "";
      if (!isPack(p)) {
        return -200;
      }
      if (isIll()) {
        return -1 - ill;
      }
      if (many) {
        return -100;
      }
      forms.set(p, form);
      return form.size();
    }

    int choices(int p) {
      return !isPack(p) ? -1 : forms.get(p) == null ? 0 : forms.get(p).size();
    }

    int pair(int p, int i, int k) {
      if (i < 0 || i >= choices(p) || k < 0 || k >= forms.get(p).get(i).size()) {
        return -1;
      }
      return new ArrayList<>(forms.get(p).get(i)).get(k);
    }

    /** DUTIES of a CHOICE, or null if it is BARRED. */
    Integer dutiesOf(TreeSet<Integer> choice, int w) {
      int all = 0;
      for (int code : choice) {
        if (code % 9 > 0 && lifted[code % 9 - 1][w]) {
          continue;
        }
        if (kinds[code / 9][w] == 2) {
          return null;
        }
        all |= duties[code / 9][w];
      }
      return all;
    }

    int best(int p, int w) {
      int best = -1;
      if (!isWay(w)) {
        return -1;
      }
      for (int i = 0; i < choices(p); i++) {
        TreeSet<Integer> c = forms.get(p).get(i);
        if (dutiesOf(c, w) == null) {
          continue;
        }
        if (best < 0) {
          best = i;
          continue;
        }
        TreeSet<Integer> b = forms.get(p).get(best);
        int less = Integer.bitCount(dutiesOf(c, w)) - Integer.bitCount(dutiesOf(b, w));
        if (less < 0 || less == 0 && c.size() < b.size()) {
          best = i;
        }
      }
      return best;
    }

    int duties(int p, int w) {
      int i = best(p, w);
      return i < 0 ? 0 : dutiesOf(forms.get(p).get(i), w);
    }

    boolean uses(int p, int o, int w) {
      if (!isPack(p) || !isPack(o) || !isWay(w) || uses.get(p).size() == 6) {
        return false;
      }
      for (int[] u : uses.get(p)) {
        if (u[0] == o && u[1] == w) {
          return false;
        }
      }
      return uses.get(p).add(new int[] {o, w});
    }

    boolean grant(int p, int end) {
      if (!isPack(p) || end < 0) {
        return false;
      }
      grants.set(p, end);
      return true;
    }

    int tick(int n) {
      if (n < 0 || n > 100000 || (long) clock + n > 1000000000L) {
        return -1;
      }
      clock += n;
      return clock;
    }

    void come(int p, int w, int from) {
      for (Entry e : entries) {
        if (e.pack == p && e.way == w) {
          return;
        }
      }
      Entry e = new Entry();
      e.pack = p;
      e.way = w;
      e.from = from;
      if (forms.get(p) != null && best(p, w) < 0) {
        e.kind = grants.get(p) != null && clock < grants.get(p) ? 3 : 2;
      } else if (forms.get(p) != null) {
        e.duties = duties(p, w);
        e.kind = e.duties == 0 ? 0 : 1;
      }
      entries.add(e);
    }

    int review(int p, int w) {
      if (!isPack(p) || !isWay(w)) {
        return -1;
      }
      entries = new ArrayList<>();
      come(p, w, -1);
      for (int i = 0; i < entries.size(); i++) {
        for (int[] u : uses.get(entries.get(i).pack)) {
          come(u[0], Math.max(u[1], entries.get(i).way), i);
        }
      }
      int barred = 0;
      for (Entry e : entries) {
        barred += e.kind == 2 ? 1 : 0;
      }
      return barred;
    }

    int entry(int i, int what) {
      if (i < 0 || i >= entries.size() || what < 0 || what > 4) {
        return -1;
      }
      Entry e = entries.get(i);
      return new int[] {e.pack, e.way, e.kind, e.duties, e.from}[what];
    }

    int all() {
      int all = 0;
      for (Entry e : entries) {
        all |= e.duties;
      }
      return all;
    }

    int material(int i) {
      List<Integer> row = new ArrayList<>();
      for (Entry e : entries) {
        if (!row.contains(e.pack)) {
          row.add(e.pack);
        }
      }
      return i < 0 || i >= row.size() ? -1 : row.get(i);
    }

    int score(long w, int l) {
      if (l < 0 || l >= words.size()) {
        return -1;
      }
      int common = 0;
      int either = 0;
      for (int bit = 0; bit < 64; bit++) {
        boolean mine = (w >> bit & 1) == 1;
        boolean its = (words.get(l) >> bit & 1) == 1;
        common += mine && its ? 1 : 0;
        either += mine || its ? 1 : 0;
      }
      return either == 0 ? 0 : 100 * common / either;
    }

    int found(long w, int other) {
      for (int top = 100; top >= 60; top--) {
        List<Integer> row = new ArrayList<>();
        for (int l = 0; l < words.size(); l++) {
          if (score(w, l) == top) {
            row.add(l);
          }
        }
        if (!row.isEmpty()) {
          return other < 0 || other > 1 || other >= row.size() ? -1 : row.get(other);
        }
      }
      return -1;
    }
  }

  /** One run: the calls, by chance but the same each time, and both answers to each. */
  private static final class Run {
    final Random dice;
    final LicenceRules x = new LicenceRules();
    final Model m = new Model();
    final String name;
    int calls = 0;

    Run(int number) {
      dice = new Random(number);
      name = "run " + number + ": ";
    }

    boolean isOver() {
      return calls >= CALLS || CHECKS.wrongSoFar() > 20;
    }

    int some(int below) {
      return dice.nextInt(below);
    }

    /** A number that is mostly 0 .. count - 1, at times one beside them or far off. */
    int near(int count) {
      int how = some(40);
      if (how == 0) {
        return dice.nextInt();
      }
      return how < 3 ? some(count + 4) - 2 : some(Math.max(count, 1));
    }

    void due(String call, long got, long want) {
      calls++;
      CHECKS.due(name + "call " + calls + ", " + call, got, want);
    }

    void due(String call, boolean got, boolean want) {
      due(call, got ? 1 : 0, want ? 1 : 0);
    }

    long words() {
      long w = dice.nextLong() & (some(2) == 0 ? 63L : 7L);
      return some(12) == 0 ? dice.nextLong() | dice.nextLong() : w;
    }

    String blank() {
      return some(25) == 0 ? " " : "";
    }

    String expression(int depth, boolean wide) {
      StringBuilder s = new StringBuilder();
      int parts = 1 + some(wide ? 6 : 4);
      for (int i = 0; i < parts; i++) {
        s.append(i == 0 ? "" : some(2) == 0 ? "&" : "|").append(blank());
        if (depth > 0 && some(wide ? 2 : 4) == 0) {
          s.append('(').append(expression(depth - 1, wide)).append(')');
        } else {
          s.append((char) ('a' + some(Math.max(m.words.size(), 1)))).append(blank());
          s.append(some(4) == 0 ? "^" + blank() + some(8) : "");
        }
        s.append(blank());
      }
      return s.toString();
    }

    /** Sums and'ed: the way to many CHOICES in a short text. */
    String product() {
      StringBuilder s = new StringBuilder();
      for (int i = 0; i < 2 + some(3); i++) {
        s.append(i == 0 ? "(" : "&(");
        int parts = 1 + some(8);
        for (int k = 0; k < parts; k++) {
          s.append(k == 0 ? "" : "|").append((char) ('a' + some(Math.max(m.words.size(), 1))));
        }
        s.append(')');
      }
      return s.toString();
    }

    String spoilt(String s) {
      StringBuilder t = new StringBuilder(s);
      String all = "abcp()|&^^0789 ~`A";
      for (int i = 0; i < 1 + some(2); i++) {
        int place = some(t.length() + 1);
        if (some(2) == 0 && place < t.length()) {
          t.deleteCharAt(place);
        } else {
          t.insert(place, all.charAt(some(all.length())));
        }
      }
      return t.toString();
    }

    String brackets() {
      int open = 8 + some(4);
      return "(".repeat(open) + "a" + ")".repeat(open - (some(4) == 0 ? 1 : 0));
    }

    void typeText(String s) {
      for (int i = 0; i < s.length() && !isOver(); i++) {
        char c = s.charAt(i);
        due("type(" + c + ")", x.type(c), m.type(c));
      }
    }

    void expressOne() {
      int how = some(10);
      String s = how == 0 ? brackets() : how < 4 ? product() : expression(3, how < 7);
      if (s.length() > 60 && some(3) > 0) {
        s = s.substring(0, 60);
      }
      typeText(some(4) == 0 ? spoilt(s) : s);
      if (isOver()) {
        return;
      }
      String text = m.text;
      int p = near(m.forms.size());
      due("express(" + p + ") of '" + text + "'", x.express(p), m.express(p));
      lookAtForm(p);
    }

    void lookAtForm(int p) {
      due("choices(" + p + ")", x.choices(p), m.choices(p));
      for (int i = 0; i < 3 && !isOver(); i++) {
        int c = near(m.choices(p));
        int k = near(3);
        due("pair(" + p + ", " + c + ", " + k + ")", x.pair(p, c, k), m.pair(p, c, k));
      }
      for (int way = 0; way < 3 && !isOver(); way++) {
        due("best(" + p + ", " + way + ")", x.best(p, way), m.best(p, way));
      }
    }

    void reviewOne() {
      int p = near(m.forms.size());
      int w = near(3);
      due("review(" + p + ", " + w + ")", x.review(p, w), m.review(p, w));
      for (int i = 0; i < 6 && !isOver(); i++) {
        int e = near(m.entries.size());
        int what = near(5);
        due("entry(" + e + ", " + what + ")", x.entry(e, what), m.entry(e, what));
      }
      due("all()", x.all(), m.all());
      int i = near(5);
      due("material(" + i + ")", x.material(i), m.material(i));
    }

    void makeOne() {
      if (some(2) == 0) {
        long w = words();
        due("licence(" + w + ")", x.licence(w), m.licence(w));
      } else {
        due("pack()", x.pack(), m.pack());
      }
    }

    void ruleOne() {
      int l = near(m.words.size());
      int w = near(3);
      int kind = near(3);
      int d = some(3) == 0 ? dice.nextInt() : 1 << some(9) | 1 << some(9);
      due("rule(" + l + ", " + w + ", " + kind + ", " + d + ")", x.rule(l, w, kind, d),
          m.rule(l, w, kind, d));
    }

    void liftOne() {
      int e = near(8);
      int w = near(3);
      boolean on = some(3) > 0;
      due("lifts(" + e + ", " + w + ", " + on + ")", x.lifts(e, w, on), m.lifts(e, w, on));
    }

    void useOne() {
      int p = near(m.forms.size());
      int o = near(m.forms.size());
      int w = near(3);
      due("uses(" + p + ", " + o + ", " + w + ")", x.uses(p, o, w), m.uses(p, o, w));
    }

    void timeOne() {
      int p = near(m.forms.size());
      int end = m.clock + some(6) - 2;
      due("grant(" + p + ", " + end + ")", x.grant(p, end), m.grant(p, end));
      int n = some(10) == 0 ? near(100001) : some(3);
      due("tick(" + n + ")", x.tick(n), m.tick(n));
    }

    void askOne() {
      int p = near(m.forms.size());
      int w = near(3);
      due("best(" + p + ", " + w + ")", x.best(p, w), m.best(p, w));
      due("duties(" + p + ", " + w + ")", x.duties(p, w), m.duties(p, w));
    }

    void findOne() {
      long w = words();
      int o = near(2);
      int l = near(m.words.size());
      due("found(" + w + ", " + o + ")", x.found(w, o), m.found(w, o));
      due("score(" + w + ", " + l + ")", x.score(w, l), m.score(w, l));
    }

    void one() {
      int how = some(20);
      if (how < 3) {
        makeOne();
      } else if (how < 6) {
        ruleOne();
      } else if (how < 7) {
        liftOne();
      } else if (how < 9) {
        expressOne();
      } else if (how < 13) {
        useOne();
      } else if (how < 15) {
        reviewOne();
      } else if (how < 16) {
        timeOne();
      } else if (how < 18) {
        askOne();
      } else {
        findOne();
      }
    }

    void go() {
      int first = some(20);
      for (int i = 0; i < first; i++) {
        makeOne();
      }
      while (!isOver()) {
        one();
      }
    }
  }

  public static void main(String[] args) {
    for (int i = 0; i < RUNS && CHECKS.wrongSoFar() <= 20; i++) {
      new Run(i).go();
    }
    CHECKS.end();
  }
}
