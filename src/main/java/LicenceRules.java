/**
 * Licences of packages: their expressions, rules and reviews, and licences found by their words.
 * The words in capitals in the comments are the document's terms.
 */
public final class LicenceRules {
  public static final int NONE = -1;

  private static final int MOST_LICENCES = 16;
  private static final int MOST_PACKS = 16;
  private static final int MOST_USES = 6;
  private static final int MOST_CHOICES = 20;
  private static final int MOST_TEXT = 60;
  private static final int MOST_OPEN = 10;
  private static final int WAYS = 3;
  private static final int EXCEPTIONS = 8;
  private static final int CODES_EACH = EXCEPTIONS + 1;
  private static final int CODES = MOST_LICENCES * CODES_EACH;

  private static final int TOO_MANY = -100;
  private static final int NO_PACK = -200;
  private static final int MOST_TICK = 100000;
  private static final int MOST_CLOCK = 1000000000;
  private static final int LEAST_SCORE = 60;

  /** A bit above the eight DUTIES, so that terms of PAIRS can be joined by one OR. */
  private static final int BARRED = 256;
  private static final int ALL_DUTIES = 255;

  private final Rules rules = new Rules();
  private final Reader reader = new Reader();
  private final Pack[] packs = new Pack[MOST_PACKS];
  private final Review latest = new Review();
  private int packCount = 0;
  private int clock = 0;

  public LicenceRules() {
  }

  public int licence(long words) {
    return rules.addLicence(words);
  }

  public boolean rule(int licence, int way, int kind, int duties) {
    if (!rules.hasLicence(licence) || !isWay(way)) {
      return false;
    }
    int bits = duties & ALL_DUTIES;
    switch (kind) {
      case 0:
        rules.setTerms(licence, way, 0);
        return true;
      case 1:
        if (bits == 0) {
          return false;
        }
        rules.setTerms(licence, way, bits);
        return true;
      case 2:
        rules.setTerms(licence, way, BARRED);
        return true;
      default:
        return false;
    }
  }

  public boolean lifts(int exception, int way, boolean on) {
    if (exception < 0 || exception >= EXCEPTIONS || !isWay(way)) {
      return false;
    }
    rules.setLifted(exception, way, on);
    return true;
  }

  public boolean type(char c) {
    return reader.append(c);
  }

  public int pack() {
    if (packCount >= MOST_PACKS) {
      return NONE;
    }
    packs[packCount] = new Pack();
    packCount++;
    return packCount - 1;
  }

  public int express(int pack) {
    Pack which = packAt(pack);
    int ill = reader.read(rules.licenceCount());
    reader.empty();
    // Whatever the text is, there is nothing that it could become the EXPRESSION of.
    if (which == null) {
      return NO_PACK;
    }
    if (ill != NONE) {
      return -1 - ill;
    }
    if (reader.hasTooMany()) {
      return TOO_MANY;
    }
    which.form.copyFrom(reader.result());
    return which.form.size();
  }

  public int choices(int pack) {
    Pack which = packAt(pack);
    return which == null ? NONE : which.form.size();
  }

  public int pair(int pack, int i, int k) {
    Pack which = packAt(pack);
    return which == null ? NONE : which.form.codeAt(i, k);
  }

  public int best(int pack, int way) {
    Pack which = packAt(pack);
    return which == null || !isWay(way) ? NONE : rules.bestOf(which.form, way);
  }

  public int duties(int pack, int way) {
    int place = best(pack, way);
    Pack which = packAt(pack);
    return which == null || place == NONE ? 0 : rules.termsOf(which.form, place, way);
  }

  public boolean uses(int pack, int other, int way) {
    Pack which = packAt(pack);
    if (which == null || packAt(other) == null || !isWay(way)) {
      return false;
    }
    return which.addUse(other, way);
  }

  public boolean grant(int pack, int end) {
    Pack which = packAt(pack);
    if (which == null || end < 0) {
      return false;
    }
    which.grantEnd = end;
    return true;
  }

  public int tick(int n) {
    if (n < 0 || n > MOST_TICK || n > MOST_CLOCK - clock) {
      return NONE;
    }
    clock += n;
    return clock;
  }

  public int review(int pack, int way) {
    if (packAt(pack) == null || !isWay(way)) {
      return NONE;
    }
    latest.walk(packs, pack, way);
    return latest.judge(packs, rules, clock);
  }

  public int entry(int i, int what) {
    return latest.tell(i, what);
  }

  public int all() {
    return latest.joinedDuties();
  }

  public int material(int i) {
    return latest.distinctPack(i);
  }

  public int found(long words, int other) {
    if (other != 0 && other != 1) {
      return NONE;
    }
    int first = NONE;
    int second = NONE;
    int top = LEAST_SCORE - 1;
    for (int n = 0; n < rules.licenceCount(); n++) {
      int points = rules.scoreOf(words, n);
      if (points > top) {
        top = points;
        first = n;
        second = NONE;
      } else if (points == top && first != NONE && second == NONE) {
        second = n;
      }
    }
    return other == 0 ? first : second;
  }

  public int score(long words, int licence) {
    return rules.hasLicence(licence) ? rules.scoreOf(words, licence) : NONE;
  }

  private static boolean isWay(int way) {
    return way >= 0 && way < WAYS;
  }

  private Pack packAt(int number) {
    return number < 0 || number >= packCount ? null : packs[number];
  }

  /** LICENCES with their WORDS and RULES, and what EXCEPTIONS LIFT. */
  private static final class Rules {
    private final long[] wordSets = new long[MOST_LICENCES];
    /** For each LICENCE and WAY: 0 (FREE), its DUTIES, or BARRED. */
    private final int[] terms = new int[MOST_LICENCES * WAYS];
    /** For each WAY the bits of the EXCEPTIONS that LIFT. */
    private final int[] lifted = new int[WAYS];
    private int count = 0;

    int licenceCount() {
      return count;
    }

    int addLicence(long words) {
      if (count >= MOST_LICENCES) {
        return NONE;
      }
      wordSets[count] = words;
      count++;
      return count - 1;
    }

    boolean hasLicence(int number) {
      return number >= 0 && number < count;
    }

    void setTerms(int number, int way, int what) {
      terms[number * WAYS + way] = what;
    }

    void setLifted(int exception, int way, boolean on) {
      int bit = 1 << exception;
      lifted[way] = on ? lifted[way] | bit : lifted[way] & ~bit;
    }

    private int termsOfCode(int code, int way) {
      int mark = code % CODES_EACH;
      if (mark > 0 && (lifted[way] >> (mark - 1) & 1) != 0) {
        return 0;
      }
      return terms[code / CODES_EACH * WAYS + way];
    }

    /** DUTIES of a CHOICE, with the bit BARRED if one of its PAIRS is. */
    int termsOf(Form form, int place, int way) {
      int joined = 0;
      for (int code = 0; code < CODES; code++) {
        if (form.holds(place, code)) {
          joined |= termsOfCode(code, way);
        }
      }
      return joined;
    }

    int bestOf(Form form, int way) {
      int best = NONE;
      int fewest = 0;
      for (int i = 0; i < form.size(); i++) {
        int joined = termsOf(form, i, way);
        // One DUTY more weighs more than all PAIRS that a CHOICE can have.
        int weight = Integer.bitCount(joined) * (CODES + 1) + form.pairCount(i);
        if (joined < BARRED && (best == NONE || weight < fewest)) {
          best = i;
          fewest = weight;
        }
      }
      return best;
    }

    int scoreOf(long words, int number) {
      int either = Long.bitCount(words | wordSets[number]);
      return either == 0 ? 0 : 100 * Long.bitCount(words & wordSets[number]) / either;
    }
  }

  /** A row of CHOICES; a CHOICE is a set of CODES, held as the bits of three longs. */
  private static final class Form {
    private static final int PARTS = 3;
    private final int room;
    private final long[] bits;
    private int count = 0;

    Form(int room) {
      this.room = Math.max(room, 1);
      this.bits = new long[this.room * PARTS];
    }

    int size() {
      return count;
    }

    void clear() {
      count = 0;
    }

    void setOnly(int code) {
      for (int part = 0; part < PARTS; part++) {
        bits[part] = code >> 6 == part ? 1L << (code & 63) : 0L;
      }
      count = 1;
    }

    /** Takes as many of the first CHOICES as there is room for. */
    void copyFrom(Form other) {
      count = Math.min(other.count, room);
      System.arraycopy(other.bits, 0, bits, 0, count * PARTS);
    }

    boolean holds(int place, int code) {
      if (place < 0 || place >= count || code < 0 || code >= CODES) {
        return false;
      }
      return (bits[place * PARTS + (code >> 6)] >>> (code & 63) & 1L) != 0L;
    }

    int pairCount(int place) {
      int sum = 0;
      for (int part = 0; part < PARTS && place >= 0 && place < count; part++) {
        sum += Long.bitCount(bits[place * PARTS + part]);
      }
      return sum;
    }

    int codeAt(int place, int k) {
      if (k < 0) {
        return NONE;
      }
      int before = 0;
      for (int code = 0; code < CODES; code++) {
        if (holds(place, code)) {
          if (before == k) {
            return code;
          }
          before++;
        }
      }
      return NONE;
    }

    /**
     * Adds a CHOICE of one row joined with one of another. Leaving out as they come gives the same
     * row as leaving out at the end: what one left out would leave out, its cause leaves out, too.
     */
    void addJoined(Form a, int i, Form b, int k) {
      long low = a.bits[i * PARTS] | b.bits[k * PARTS];
      long middle = a.bits[i * PARTS + 1] | b.bits[k * PARTS + 1];
      long high = a.bits[i * PARTS + 2] | b.bits[k * PARTS + 2];
      if (hasOneWithin(low, middle, high)) {
        return;
      }
      dropThoseWith(low, middle, high);
      if (count < room) {
        bits[count * PARTS] = low;
        bits[count * PARTS + 1] = middle;
        bits[count * PARTS + 2] = high;
        count++;
      }
    }

    private boolean hasOneWithin(long low, long middle, long high) {
      for (int at = 0; at < count; at++) {
        if ((bits[at * PARTS] & ~low) == 0L
            && (bits[at * PARTS + 1] & ~middle) == 0L
            && (bits[at * PARTS + 2] & ~high) == 0L) {
          return true;
        }
      }
      return false;
    }

    private void dropThoseWith(long low, long middle, long high) {
      int kept = 0;
      for (int at = 0; at < count; at++) {
        boolean hasAll = (low & ~bits[at * PARTS]) == 0L
            && (middle & ~bits[at * PARTS + 1]) == 0L
            && (high & ~bits[at * PARTS + 2]) == 0L;
        if (!hasAll) {
          for (int part = 0; part < PARTS; part++) {
            bits[kept * PARTS + part] = bits[at * PARTS + part];
          }
          kept++;
        }
      }
      count = kept;
    }
  }

  /** The text, and what turns it into a NORMAL FORM, a character at a time. */
  private static final class Reader {
    private static final int WANTS_ATOM = 0;
    /** Behind a name alone: ^ may come, too. */
    private static final int NAMED = 1;
    private static final int WANTS_DIGIT = 2;
    private static final int BEHIND_ATOM = 3;

    private final char[] text = new char[MOST_TEXT];
    /** For each open bracket what stands before its last |, and what stands behind that. */
    private final Form[] eithers = new Form[MOST_OPEN + 1];
    private final Form[] alsos = new Form[MOST_OPEN + 1];
    private final Form atom = new Form(1);
    /** All that two rows of the greatest length can give before it is cut to that length. */
    private final Form work = new Form(MOST_CHOICES * MOST_CHOICES);
    private int length = 0;
    private int open = 0;
    private int state = WANTS_ATOM;
    private int named = 0;
    private boolean tooMany = false;

    Reader() {
      for (int i = 0; i <= MOST_OPEN; i++) {
        eithers[i] = new Form(MOST_CHOICES);
        alsos[i] = new Form(MOST_CHOICES);
      }
    }

    boolean append(char c) {
      if (c < 32 || c > 126 || length >= MOST_TEXT) {
        return false;
      }
      text[length] = c;
      length++;
      return true;
    }

    void empty() {
      length = 0;
    }

    boolean hasTooMany() {
      return tooMany;
    }

    Form result() {
      return eithers[0];
    }

    /** The place at which the text is ILL, or NONE; then there is a result. */
    int read(int licences) {
      open = 0;
      state = WANTS_ATOM;
      tooMany = false;
      startLevel();
      for (int at = 0; at < length; at++) {
        if (text[at] != ' ' && !takes(text[at], licences)) {
          return at;
        }
      }
      endName();
      if (state != BEHIND_ATOM || open != 0) {
        return length;
      }
      endAlso();
      return NONE;
    }

    private boolean takes(char c, int licences) {
      if (state == WANTS_ATOM) {
        return c == '(' ? opens() : takesName(c, licences);
      }
      if (state == WANTS_DIGIT) {
        return takesDigit(c);
      }
      if (state == NAMED && c == '^') {
        state = WANTS_DIGIT;
        return true;
      }
      endName();
      return c == ')' ? closes() : takesSign(c);
    }

    private boolean opens() {
      if (open >= MOST_OPEN) {
        return false;
      }
      open++;
      startLevel();
      return true;
    }

    private boolean takesName(char c, int licences) {
      if (c < 'a' || c - 'a' >= licences) {
        return false;
      }
      named = c - 'a';
      state = NAMED;
      return true;
    }

    private boolean takesDigit(char c) {
      if (c < '0' || c - '0' >= EXCEPTIONS) {
        return false;
      }
      atom.setOnly(named * CODES_EACH + (c - '0') + 1);
      endAtom(atom);
      return true;
    }

    private boolean closes() {
      if (open <= 0) {
        return false;
      }
      endAlso();
      open--;
      endAtom(eithers[open + 1]);
      return true;
    }

    private boolean takesSign(char c) {
      if (c != '|' && c != '&') {
        return false;
      }
      if (c == '|') {
        endAlso();
      }
      state = WANTS_ATOM;
      return true;
    }

    private void startLevel() {
      eithers[open].clear();
      alsos[open].clear();
    }

    private void endName() {
      if (state == NAMED) {
        atom.setOnly(named * CODES_EACH);
        endAtom(atom);
      }
    }

    private void endAtom(Form whole) {
      Form also = alsos[open];
      state = BEHIND_ATOM;
      if (also.size() == 0) {
        also.copyFrom(whole);
        return;
      }
      work.clear();
      for (int i = 0; i < also.size(); i++) {
        for (int k = 0; k < whole.size(); k++) {
          work.addJoined(also, i, whole, k);
        }
      }
      keepWork(also);
    }

    private void endAlso() {
      Form either = eithers[open];
      Form also = alsos[open];
      work.copyFrom(either);
      for (int i = 0; i < also.size(); i++) {
        work.addJoined(also, i, also, i);
      }
      keepWork(either);
      also.clear();
    }

    private void keepWork(Form into) {
      if (work.size() > MOST_CHOICES) {
        tooMany = true;
      }
      into.copyFrom(work);
    }
  }

  /** A PACKAGE: its NORMAL FORM (an empty one without an EXPRESSION), USES and GRANT. */
  private static final class Pack {
    private final Form form = new Form(MOST_CHOICES);
    private final int[] usedPacks = new int[MOST_USES];
    private final int[] usedWays = new int[MOST_USES];
    private int useCount = 0;
    private int grantEnd = NONE;

    boolean addUse(int other, int way) {
      if (useCount >= MOST_USES) {
        return false;
      }
      for (int i = 0; i < useCount; i++) {
        if (usedPacks[i] == other && usedWays[i] == way) {
          return false;
        }
      }
      usedPacks[useCount] = other;
      usedWays[useCount] = way;
      useCount++;
      return true;
    }
  }

  /** The ENTRIES of the latest REVIEW, as they were then. */
  private static final class Review {
    private static final int MOST_ENTRIES = MOST_PACKS * WAYS;
    private static final int FREE_KIND = 0;
    private static final int DUTIES_KIND = 1;
    private static final int BARRED_KIND = 2;
    private static final int GRANTED_KIND = 3;

    private final int[] numbers = new int[MOST_ENTRIES];
    private final int[] ways = new int[MOST_ENTRIES];
    private final int[] kinds = new int[MOST_ENTRIES];
    private final int[] dutySets = new int[MOST_ENTRIES];
    private final int[] origins = new int[MOST_ENTRIES];
    private int count = 0;

    /** The row of ENTRIES is also the queue of those whose USES are still to come. */
    void walk(Pack[] packs, int number, int way) {
      count = 0;
      addOnce(number, way, NONE);
      for (int at = 0; at < MOST_ENTRIES && at < count; at++) {
        Pack which = packs[numbers[at]];
        for (int i = 0; which != null && i < which.useCount; i++) {
          addOnce(which.usedPacks[i], Math.max(ways[at], which.usedWays[i]), at);
        }
      }
    }

    private void addOnce(int number, int way, int origin) {
      for (int i = 0; i < count; i++) {
        if (numbers[i] == number && ways[i] == way) {
          return;
        }
      }
      if (count < MOST_ENTRIES) {
        numbers[count] = number;
        ways[count] = way;
        origins[count] = origin;
        count++;
      }
    }

    /** Says of each ENTRY what it is: how many are BARRED and not GRANTED. */
    int judge(Pack[] packs, Rules rules, int clock) {
      int barred = 0;
      for (int at = 0; at < count; at++) {
        kinds[at] = FREE_KIND;
        dutySets[at] = 0;
        Pack which = packs[numbers[at]];
        if (which != null && which.form.size() > 0) {
          judgeOne(at, which, rules, clock);
        }
        if (kinds[at] == BARRED_KIND) {
          barred++;
        }
      }
      return barred;
    }

    private void judgeOne(int at, Pack which, Rules rules, int clock) {
      int place = rules.bestOf(which.form, ways[at]);
      if (place == NONE) {
        kinds[at] = clock < which.grantEnd ? GRANTED_KIND : BARRED_KIND;
        return;
      }
      dutySets[at] = rules.termsOf(which.form, place, ways[at]);
      kinds[at] = dutySets[at] == 0 ? FREE_KIND : DUTIES_KIND;
    }

    int tell(int i, int what) {
      if (i < 0 || i >= count) {
        return NONE;
      }
      switch (what) {
        case 0:
          return numbers[i];
        case 1:
          return ways[i];
        case 2:
          return kinds[i];
        case 3:
          return dutySets[i];
        case 4:
          return origins[i];
        default:
          return NONE;
      }
    }

    int joinedDuties() {
      int joined = 0;
      for (int i = 0; i < count; i++) {
        joined |= dutySets[i];
      }
      return joined;
    }

    int distinctPack(int i) {
      int before = 0;
      for (int at = 0; at < count; at++) {
        if (isFirstOfItsPack(at)) {
          if (before == i) {
            return numbers[at];
          }
          before++;
        }
      }
      return NONE;
    }

    private boolean isFirstOfItsPack(int at) {
      for (int i = 0; i < at; i++) {
        if (numbers[i] == numbers[at]) {
          return false;
        }
      }
      return true;
    }
  }
}
