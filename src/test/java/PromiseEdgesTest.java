/**
 * The document's promises, a method for each sentence that names a boundary or a refusal: each
 * begins with the sentence's own words. What refused calls leave as it was, RefusedCallsTest shows.
 */
public final class PromiseEdgesTest {
  private static final int NONE = LicenceRules.NONE;
  private static final int LEAST = Integer.MIN_VALUE;
  private static final int GREATEST = Integer.MAX_VALUE;
  private static final int[] NO_WAYS = {LEAST, -2, -1, 3, 4, GREATEST};
  /** Not among the sixteen LICENCES or PACKAGES that there can be at most. */
  private static final int[] FAR_OFF = {LEAST, -65536, -256, -17, -16, -2, -1, 16, 17, 256, GREATEST};
  private static final String TWENTY_ONE = "(a|b|c)&(d|e|f|g|h|i|j)";
  private static final Checks CHECKS = new Checks();

  public static void main(String[] args) {
    newObjectHasNoLicences();
    newObjectHasNoPackages();
    newObjectsClock();
    licenceNumber();
    licenceNoneIf16();
    ruleKinds();
    ruleLowestEight();
    ruleNoSuchLicence();
    ruleNoSuchWay();
    ruleNoSuchKind();
    ruleDutiesNone();
    liftsOrDoesnt();
    liftsNoneSuch();
    typeAtTheEnd();
    typeRefusesCodes();
    typeRefusesBeyond60();
    packNumber();
    packNoneIf16();
    expressEmptiesTheText();
    expressCount();
    expressIll();
    expressTooMany();
    expressNoSuchPackage();
    expressTheOneBeforeStays();
    choicesWithoutOne();
    choicesNoneSuch();
    pairByRisingCodes();
    pairNoneSuch();
    bestAllBarred();
    bestWithoutExpression();
    bestNoneSuch();
    dutiesZeroIfNone();
    usesItself();
    usesNoneSuch();
    usesAlready();
    usesHas6();
    grantInPlaceOfTheOneBefore();
    grantNoneSuch();
    grantBelow0();
    tickFrom0To100000();
    tickNoneBeyond();
    tickNoneAboveTheEnd();
    reviewCountsBarredNotGranted();
    reviewNoneSuch();
    entryOfTheLatest();
    entryAsItWasThen();
    entryDutiesZeroIfBarred();
    entryOrigin();
    entryNoneSuch();
    entryOtherWhat();
    allTogether();
    allZeroBefore();
    materialOnce();
    materialNoneSuch();
    foundOther();
    foundNoneSuch();
    foundForAnotherOther();
    scoreNoneSuch();
    answersUpToThe512thCall();
    CHECKS.end();
  }

  private static void newObjectHasNoLicences() {
    CHECKS.about("1: No LICENCES");
    LicenceRules x = Checks.with(0, 1);
    CHECKS.due("score", x.score(0L, 0), NONE);
    CHECKS.due("rule", x.rule(0, 0, 0, 0), false);
    CHECKS.due("found", x.found(0L, 0), NONE);
    CHECKS.due("name", Checks.express(x, 0, "a"), -1);
    CHECKS.due("the first one", x.licence(0L), 0);
  }

  private static void newObjectHasNoPackages() {
    CHECKS.about("1: no PACKAGES");
    LicenceRules x = Checks.with(1, 0);
    CHECKS.due("choices", x.choices(0), NONE);
    CHECKS.due("express", Checks.express(x, 0, "a"), -200);
    CHECKS.due("pair", x.pair(0, 0, 0), NONE);
    CHECKS.due("best", x.best(0, 0), NONE);
    CHECKS.due("duties", x.duties(0, 0), 0);
    CHECKS.due("uses", x.uses(0, 0, 0), false);
    CHECKS.due("grant", x.grant(0, 0), false);
    CHECKS.due("review", x.review(0, 0), NONE);
    CHECKS.due("the first one", x.pack(), 0);
    LicenceRules y = new LicenceRules();
    CHECKS.due("another object has none of it", y.choices(0), NONE);
    CHECKS.due("nor of its licences", y.score(0L, 0), NONE);
  }

  private static void newObjectsClock() {
    CHECKS.about("1: CLOCK 0");
    LicenceRules x = new LicenceRules();
    CHECKS.due("clock", x.tick(0), 0);
    x.tick(7);
    LicenceRules y = new LicenceRules();
    CHECKS.due("another object's clock", y.tick(0), 0);
  }

  private static void licenceNumber() {
    CHECKS.about("2: A new LICENCE with WORDS: its number");
    LicenceRules x = new LicenceRules();
    for (int i = 0; i < 16; i++) {
      CHECKS.due("not yet " + i, x.score(1L << i, i), NONE);
      CHECKS.due("licence " + i, x.licence(1L << (i * 4)), i);
    }
    for (int i = 0; i < 16; i++) {
      CHECKS.due("its words " + i, x.score(1L << (i * 4), i), 100);
    }
  }

  private static void licenceNoneIf16() {
    CHECKS.about("2: NONE if there are 16");
    LicenceRules x = Checks.with(16, 0);
    CHECKS.due("seventeenth", x.licence(5L), NONE);
    CHECKS.due("again", x.licence(-1L), NONE);
    CHECKS.due("its words are nobody's", x.found(5L, 0), NONE);
    CHECKS.due("nor these", x.found(-1L, 0), NONE);
    CHECKS.due("the first one's words", x.score(5L, 0), 0);
    CHECKS.due("the last one's words", x.score(5L, 15), 0);
    CHECKS.due("no rule for it", x.rule(16, 0, 0, 0), false);
  }

  private static void ruleKinds() {
    CHECKS.about("3: FREE (kind 0), DUTIES (1), BARRED (2)");
    for (int licence = 0; licence < 16; licence++) {
      LicenceRules x = Checks.with(16, 1);
      Checks.express(x, 0, "" + (char) ('a' + licence));
      for (int way = 0; way < 3; way++) {
        CHECKS.due("duties", x.rule(licence, way, 1, 8 + way), true);
        CHECKS.due("duties then", x.duties(0, way), 8 + way);
        CHECKS.due("barred", x.rule(licence, way, 2, 255), true);
        CHECKS.due("best then", x.best(0, way), NONE);
        CHECKS.due("no duties then", x.duties(0, way), 0);
        CHECKS.due("duties again", x.rule(licence, way, 1, 16 + way), true);
        CHECKS.due("duties then", x.duties(0, way), 16 + way);
        CHECKS.due("free", x.rule(licence, way, 0, 255), true);
        CHECKS.due("free has no duties", x.duties(0, way), 0);
        CHECKS.due("best then", x.best(0, way), 0);
        CHECKS.due("barred without duties", x.rule(licence, way, 2, 0), true);
        CHECKS.due("free without duties", x.rule(licence, way, 0, 0), true);
      }
      x.rule(licence, 1, 1, 4);
      CHECKS.due("the way below stays", x.duties(0, 0), 0);
      CHECKS.due("the way above stays", x.duties(0, 2), 0);
      x.rule((licence + 1) % 16, 1, 2, 0);
      CHECKS.due("another licence's rule", x.duties(0, 1), 4);
    }
  }

  private static void ruleLowestEight() {
    CHECKS.about("3: bits of which the lowest eight count");
    LicenceRules x = Checks.with(1, 1);
    Checks.express(x, 0, "a");
    int[] bits = {1, 128, 255, 257, 256 + 128, 0x7FFFFF80, -1, -255, -128, LEAST + 1, GREATEST};
    for (int one : bits) {
      CHECKS.due("rule " + one, x.rule(0, 0, 1, one), true);
      CHECKS.due("duties of " + one, x.duties(0, 0), Math.floorMod(one, 256));
      x.review(0, 0);
      CHECKS.due("kind with " + one, x.entry(0, 2), 1);
    }
  }

  private static void ruleNoSuchLicence() {
    CHECKS.about("3: False if there are none such (LICENCE)");
    LicenceRules x = Checks.with(3, 0);
    LicenceRules full = Checks.with(16, 0);
    for (int kind = 0; kind < 3; kind++) {
      CHECKS.due("licence 2", x.rule(2, 0, kind, 1), true);
      CHECKS.due("licence 3", x.rule(3, 0, kind, 1), false);
      CHECKS.due("licence 15", x.rule(15, 0, kind, 1), false);
      CHECKS.due("licence 15 of 16", full.rule(15, 0, kind, 1), true);
      for (int wrong : FAR_OFF) {
        CHECKS.due("licence " + wrong, x.rule(wrong, 0, kind, 1), false);
        CHECKS.due("of 16, licence " + wrong, full.rule(wrong, 2, kind, 1), false);
      }
    }
  }

  private static void ruleNoSuchWay() {
    CHECKS.about("3: False if there are none such (WAY)");
    LicenceRules x = Checks.with(16, 0);
    for (int kind = 0; kind < 3; kind++) {
      for (int way = 0; way < 3; way++) {
        CHECKS.due("way " + way, x.rule(1, way, kind, 1), true);
      }
      for (int way : NO_WAYS) {
        CHECKS.due("first licence, way " + way, x.rule(0, way, kind, 1), false);
        CHECKS.due("last licence, way " + way, x.rule(15, way, kind, 1), false);
      }
    }
  }

  private static void ruleNoSuchKind() {
    CHECKS.about("3: False if there are none such (kind)");
    LicenceRules x = Checks.with(1, 1);
    Checks.express(x, 0, "a");
    x.rule(0, 0, 1, 9);
    for (int kind : new int[] {LEAST, -2, -1, 3, 4, 256, 257, 258, GREATEST}) {
      CHECKS.due("kind " + kind, x.rule(0, 0, kind, 1), false);
      CHECKS.due("duties stay", x.duties(0, 0), 9);
    }
  }

  private static void ruleDutiesNone() {
    CHECKS.about("3: False if DUTIES are none");
    LicenceRules x = Checks.with(1, 1);
    Checks.express(x, 0, "a");
    for (int before = 0; before < 3; before++) {
      x.rule(0, 0, before, 9);
      for (int none : new int[] {0, 256, 0xFF00, -256, LEAST}) {
        CHECKS.due("duties " + none, x.rule(0, 0, 1, none), false);
        CHECKS.due("the rule before stays", x.duties(0, 0), before == 1 ? 9 : 0);
        CHECKS.due("and what is best", x.best(0, 0), before == 2 ? NONE : 0);
      }
    }
  }

  private static void liftsOrDoesnt() {
    CHECKS.about("4: An EXCEPTION LIFTS in a WAY, or doesn't");
    for (int e = 0; e < 8; e++) {
      LicenceRules x = Checks.with(1, 1);
      Checks.express(x, 0, "a^" + e);
      for (int way = 0; way < 3; way++) {
        x.rule(0, way, 2, 0);
        CHECKS.due("off at first", x.lifts(e, way, false), true);
        CHECKS.due("barred at first", x.best(0, way), NONE);
        CHECKS.due("on", x.lifts(e, way, true), true);
        CHECKS.due("free", x.best(0, way), 0);
        CHECKS.due("on again", x.lifts(e, way, true), true);
        CHECKS.due("still free", x.best(0, way), 0);
        CHECKS.due("another one off", x.lifts((e + 1) % 8, way, false), true);
        CHECKS.due("still free, too", x.best(0, way), 0);
        CHECKS.due("off", x.lifts(e, way, false), true);
        CHECKS.due("barred", x.best(0, way), NONE);
      }
    }
  }

  private static void liftsNoneSuch() {
    CHECKS.about("4: false if there are none such");
    LicenceRules x = new LicenceRules();
    for (int e : new int[] {LEAST, -32, -8, -2, -1, 8, 9, 31, 32, 40, GREATEST}) {
      for (int way = 0; way < 3; way++) {
        CHECKS.due("exception " + e + " on", x.lifts(e, way, true), false);
        CHECKS.due("exception " + e + " off", x.lifts(e, way, false), false);
      }
    }
    for (int way : NO_WAYS) {
      CHECKS.due("0, way " + way, x.lifts(0, way, true), false);
      CHECKS.due("7, way " + way, x.lifts(7, way, false), false);
    }
    CHECKS.due("the first exception, without any licence", x.lifts(0, 0, true), true);
    CHECKS.due("the last one", x.lifts(7, 2, true), true);
  }

  private static void typeAtTheEnd() {
    CHECKS.about("5: A character comes at the end of the text");
    LicenceRules x = Checks.with(2, 1);
    CHECKS.due("b", x.type('b'), true);
    CHECKS.due("^", x.type('^'), true);
    CHECKS.due("0", x.type('0'), true);
    CHECKS.due("express", x.express(0), 1);
    CHECKS.due("b^0", x.pair(0, 0, 0), 10);
  }

  private static void typeRefusesCodes() {
    CHECKS.about("5: false if its code isn't 32 .. 126");
    LicenceRules x = Checks.with(1, 1);
    for (int c : new int[] {0, 1, 9, 10, 13, 30, 31, 127, 128, 160, 255, 256, 32768, 65535}) {
      CHECKS.due("code " + c, x.type((char) c), false);
    }
    CHECKS.due("none is in the text", x.express(0), -1);
    CHECKS.due("code 32", x.type((char) 32), true);
    CHECKS.due("code 126", x.type((char) 126), true);
    CHECKS.due("both are in the text", x.express(0), -2);
  }

  private static void typeRefusesBeyond60() {
    CHECKS.about("5: false if there are 60");
    LicenceRules x = Checks.with(1, 1);
    for (int round = 0; round < 3; round++) {
      for (int i = 1; i <= 70; i++) {
        CHECKS.due("character " + i, x.type(i == 60 ? 'a' : i > 60 ? '~' : ' '), i <= 60);
      }
      CHECKS.due("the first sixty", x.express(0), 1);
    }
  }

  private static void packNumber() {
    CHECKS.about("6: A new PACKAGE without an EXPRESSION: its number");
    LicenceRules x = Checks.with(1, 0);
    for (int i = 0; i < 16; i++) {
      CHECKS.due("not yet " + i, x.choices(i), NONE);
      CHECKS.due("package " + i, x.pack(), i);
      CHECKS.due("without an expression", x.choices(i), 0);
      CHECKS.due("a text isn't another one's", Checks.express(x, i, "a"), 1);
    }
  }

  private static void packNoneIf16() {
    CHECKS.about("6: NONE if there are 16");
    LicenceRules x = Checks.with(1, 16);
    Checks.express(x, 0, "a");
    Checks.express(x, 15, "a");
    CHECKS.due("seventeenth", x.pack(), NONE);
    CHECKS.due("again", x.pack(), NONE);
    CHECKS.due("isn't there", x.choices(16), NONE);
    CHECKS.due("the first one stays", x.choices(0), 1);
    CHECKS.due("the last one stays", x.choices(15), 1);
  }

  private static void expressEmptiesTheText() {
    CHECKS.about("7: The text (which is empty then)");
    LicenceRules x = Checks.with(16, 1);
    String[] texts = {"a", "a|b", "a|", "~", TWENTY_ONE, ""};
    int[] answers = {1, 2, -3, -1, -100, -1};
    for (int i = 0; i < texts.length; i++) {
      CHECKS.due("'" + texts[i] + "'", Checks.express(x, 0, texts[i]), answers[i]);
      CHECKS.due("the text behind it", x.express(0), -1);
    }
    CHECKS.due("no package", Checks.express(x, 1, "a"), -200);
    CHECKS.due("the text behind it", x.express(0), -1);
    CHECKS.due("sixty", Checks.express(x, 0, " ".repeat(59) + "a"), 1);
    CHECKS.due("room for sixty", Checks.express(x, 0, " ".repeat(59) + "b"), 1);
  }

  private static void expressCount() {
    CHECKS.about("7: how many CHOICES its NORMAL FORM has");
    LicenceRules x = Checks.with(16, 1);
    StringBuilder text = new StringBuilder();
    for (int i = 0; i < 16; i++) {
      text.append(i == 0 ? "" : "|").append((char) ('a' + i));
      CHECKS.due(text.toString(), Checks.express(x, 0, text.toString()), i + 1);
      CHECKS.due("choices", x.choices(0), i + 1);
    }
  }

  private static void expressIll() {
    CHECKS.about("7: - 1 less the place at which it is ILL");
    LicenceRules x = Checks.with(1, 1);
    for (int place : new int[] {0, 1, 2, 29, 58, 59}) {
      String text = " ".repeat(place) + ")";
      CHECKS.due("at " + place, Checks.express(x, 0, text), -1 - place);
    }
    CHECKS.due("at the end of sixty", Checks.express(x, 0, " ".repeat(60)), -61);
    CHECKS.due("no text", x.express(0), -1);
  }

  private static void expressTooMany() {
    CHECKS.about("7: - 100 if it is TOO MANY");
    LicenceRules x = Checks.with(16, 1);
    CHECKS.due("twenty", Checks.express(x, 0, "(a|b|c|d|e)&(f|g|h|i)"), 20);
    CHECKS.due("twenty-one", Checks.express(x, 0, TWENTY_ONE), -100);
    CHECKS.due("twenty-one of a package that isn't", Checks.express(x, 1, TWENTY_ONE), -200);
    CHECKS.due("one behind it", Checks.express(x, 0, "a"), 1);
  }

  private static void expressNoSuchPackage() {
    CHECKS.about("7: - 200 if there is no such PACKAGE");
    LicenceRules x = Checks.with(1, 3);
    LicenceRules full = Checks.with(1, 16);
    CHECKS.due("package 2", Checks.express(x, 2, "a"), 1);
    CHECKS.due("package 3", Checks.express(x, 3, "a"), -200);
    CHECKS.due("package 15", Checks.express(x, 15, "a"), -200);
    CHECKS.due("package 15 of 16", Checks.express(full, 15, "a"), 1);
    for (int wrong : FAR_OFF) {
      CHECKS.due("package " + wrong, Checks.express(x, wrong, "a"), -200);
      CHECKS.due("of 16, package " + wrong, Checks.express(full, wrong, "a"), -200);
      CHECKS.due("without a text", x.express(wrong), -200);
    }
  }

  private static void expressTheOneBeforeStays() {
    CHECKS.about("7: In these cases the one before stays");
    LicenceRules x = Checks.with(16, 2);
    Checks.express(x, 0, "b&c^1|d");
    Checks.express(x, 1, "e");
    x.rule(3, 0, 1, 1);
    String[] texts = {"a|", "a)", "", TWENTY_ONE, TWENTY_ONE + "|a|b|c", "(a|b"};
    for (String text : texts) {
      CHECKS.due("'" + text + "' is refused", Checks.express(x, 0, text) < 0, true);
      CHECKS.due("choices", x.choices(0), 2);
      CHECKS.dueForm("the one before", x, 0, "9 20|27");
      CHECKS.due("best", x.best(0, 0), 0);
    }
    CHECKS.due("no package", Checks.express(x, 2, "a"), -200);
    CHECKS.due("no package", Checks.express(x, -1, "a"), -200);
    CHECKS.dueForm("the first one's", x, 0, "9 20|27");
    CHECKS.dueForm("the last one's", x, 1, "36");
    CHECKS.due("a good one", Checks.express(x, 0, "a"), 1);
    CHECKS.dueForm("in its place", x, 0, "0");
    CHECKS.dueForm("not of the other", x, 1, "36");
  }

  private static void choicesWithoutOne() {
    CHECKS.about("8: 0 without one");
    LicenceRules x = Checks.with(1, 16);
    for (int i = 0; i < 16; i++) {
      CHECKS.due("package " + i, x.choices(i), 0);
    }
    Checks.express(x, 7, "a");
    CHECKS.due("with one", x.choices(7), 1);
    CHECKS.due("still without", x.choices(6), 0);
    CHECKS.due("still without, too", x.choices(8), 0);
  }

  private static void choicesNoneSuch() {
    CHECKS.about("8: NONE if there is none such");
    LicenceRules x = Checks.with(0, 3);
    LicenceRules full = Checks.with(0, 16);
    CHECKS.due("package 3", x.choices(3), NONE);
    CHECKS.due("package 15", x.choices(15), NONE);
    for (int wrong : FAR_OFF) {
      CHECKS.due("package " + wrong, x.choices(wrong), NONE);
      CHECKS.due("of 16, package " + wrong, full.choices(wrong), NONE);
    }
  }

  private static void pairByRisingCodes() {
    CHECKS.about("9: The CODE of the k-th PAIR, by rising CODES");
    LicenceRules x = Checks.with(16, 1);
    CHECKS.due("express", Checks.express(x, 0, "p^7&p&o&h^1&h^0&h&g^7&a^7&a^0&a"), 1);
    int[] want = {0, 1, 8, 62, 63, 64, 65, 126, 135, 143};
    for (int k = 0; k < want.length; k++) {
      CHECKS.due("pair " + k, x.pair(0, 0, k), want[k]);
    }
    CHECKS.due("none behind the last", x.pair(0, 0, want.length), NONE);
    CHECKS.due("thirty", Checks.express(x, 0,
        "a&b&c&d&e&f&g&h&i&j&k&l&m&n&o&p&b&b&b&b&b&b&b&b&b&b&b&b&b&b"), 1);
    CHECKS.due("the sixteenth", x.pair(0, 0, 15), 135);
    CHECKS.due("the same ones are told once", x.pair(0, 0, 16), NONE);
  }

  private static void pairNoneSuch() {
    CHECKS.about("9: NONE if there is none such");
    LicenceRules x = Checks.with(16, 3);
    Checks.express(x, 0, "a|b&c");
    Checks.express(x, 1, "(a|b|c|d|e)&(f|g|h|i)");
    CHECKS.due("last choice", x.pair(1, 19, 1), 72);
    CHECKS.due("twenty-first choice", x.pair(1, 20, 0), NONE);
    CHECKS.due("third choice of two", x.pair(0, 2, 0), NONE);
    CHECKS.due("second pair of one", x.pair(0, 0, 1), NONE);
    CHECKS.due("second pair of two", x.pair(0, 1, 1), 18);
    CHECKS.due("third pair of two", x.pair(0, 1, 2), NONE);
    CHECKS.due("without an expression", x.pair(2, 0, 0), NONE);
    CHECKS.due("package 3", x.pair(3, 0, 0), NONE);
    for (int wrong : FAR_OFF) {
      CHECKS.due("package " + wrong, x.pair(wrong, 0, 0), NONE);
      CHECKS.due("choice " + wrong, x.pair(0, wrong, 0), NONE);
      CHECKS.due("pair " + wrong, x.pair(0, 1, wrong), NONE);
    }
  }

  private static void bestAllBarred() {
    CHECKS.about("10: NONE if all are BARRED");
    LicenceRules x = Checks.with(3, 1);
    Checks.express(x, 0, "a|b|c");
    for (int licence = 0; licence < 3; licence++) {
      CHECKS.due("not all", x.best(0, 2), licence);
      x.rule(licence, 2, 2, 0);
    }
    CHECKS.due("all", x.best(0, 2), NONE);
    CHECKS.due("not in this way", x.best(0, 1), 0);
    x.rule(1, 2, 1, 255);
    CHECKS.due("all but one", x.best(0, 2), 1);
  }

  private static void bestWithoutExpression() {
    CHECKS.about("10: NONE if it has no EXPRESSION");
    LicenceRules x = Checks.with(1, 2);
    Checks.express(x, 1, "a");
    for (int way = 0; way < 3; way++) {
      CHECKS.due("way " + way, x.best(0, way), NONE);
      CHECKS.due("the other has one", x.best(1, way), 0);
    }
  }

  private static void bestNoneSuch() {
    CHECKS.about("10: NONE if there are none such");
    LicenceRules x = Checks.with(1, 16);
    for (int i = 0; i < 16; i++) {
      Checks.express(x, i, "a");
    }
    CHECKS.due("the last one", x.best(15, 2), 0);
    for (int way = 0; way < 3; way++) {
      for (int wrong : FAR_OFF) {
        CHECKS.due("package " + wrong, x.best(wrong, way), NONE);
      }
    }
    for (int way : NO_WAYS) {
      CHECKS.due("0, way " + way, x.best(0, way), NONE);
      CHECKS.due("15, way " + way, x.best(15, way), NONE);
    }
  }

  private static void dutiesZeroIfNone() {
    CHECKS.about("11: 0 if there is none");
    LicenceRules x = Checks.with(2, 16);
    for (int i = 0; i < 15; i++) {
      Checks.express(x, i, "a");
    }
    for (int way = 0; way < 3; way++) {
      x.rule(0, way, 1, 7);
      CHECKS.due("there is one", x.duties(14, way), 7);
      CHECKS.due("no expression", x.duties(15, way), 0);
      for (int wrong : FAR_OFF) {
        CHECKS.due("package " + wrong, x.duties(wrong, way), 0);
      }
    }
    for (int way : NO_WAYS) {
      CHECKS.due("0, way " + way, x.duties(0, way), 0);
      CHECKS.due("14, way " + way, x.duties(14, way), 0);
    }
    Checks.express(x, 0, "a&b");
    x.rule(1, 0, 2, 0);
    CHECKS.due("barred", x.duties(0, 0), 0);
  }

  private static void usesItself() {
    CHECKS.about("12: A PACKAGE USES another one (or itself) in a WAY");
    LicenceRules x = Checks.with(0, 16);
    for (int i = 0; i < 16; i++) {
      CHECKS.due("itself " + i, x.uses(i, i, 2), true);
      CHECKS.due("another one " + i, x.uses(i, 15 - i, 1), true);
      x.review(i, 0);
      CHECKS.due("itself comes", x.entry(1, 0), i);
      CHECKS.due("in the way", x.entry(1, 1), 2);
      CHECKS.due("another one comes", x.entry(2, 0), 15 - i);
      CHECKS.due("in its way", x.entry(2, 1), 1);
    }
  }

  private static void usesNoneSuch() {
    CHECKS.about("12: false if there are none such");
    LicenceRules x = Checks.with(0, 3);
    LicenceRules full = Checks.with(0, 16);
    CHECKS.due("package 3", x.uses(3, 0, 0), false);
    CHECKS.due("other 3", x.uses(0, 3, 0), false);
    for (int wrong : FAR_OFF) {
      CHECKS.due("package " + wrong, x.uses(wrong, 0, 0), false);
      CHECKS.due("other " + wrong, x.uses(0, wrong, 0), false);
      CHECKS.due("both " + wrong, x.uses(wrong, wrong, 0), false);
      CHECKS.due("of 16, package " + wrong, full.uses(wrong, 15, 2), false);
      CHECKS.due("of 16, other " + wrong, full.uses(15, wrong, 2), false);
    }
    for (int way : NO_WAYS) {
      CHECKS.due("way " + way, x.uses(0, 1, way), false);
    }
    CHECKS.due("the last ones", full.uses(15, 15, 2), true);
    x.review(0, 0);
    CHECKS.due("none is used", x.entry(1, 0), NONE);
    for (int i = 0; i < 3; i++) {
      CHECKS.due("room is left", x.uses(0, 1, i), true);
      CHECKS.due("room is left, too", x.uses(0, 2, i), true);
    }
  }

  private static void usesAlready() {
    CHECKS.about("12: false if it does already");
    LicenceRules x = Checks.with(0, 3);
    for (int i = 0; i < 4; i++) {
      CHECKS.due("time " + i, x.uses(0, 1, 1), i == 0);
    }
    for (int i = 0; i < 3; i++) {
      CHECKS.due("2 in " + i, x.uses(0, 2, i), true);
      CHECKS.due("2 again in " + i, x.uses(0, 2, i), false);
    }
    CHECKS.due("1 in 0: a refused one takes no room", x.uses(0, 1, 0), true);
    CHECKS.due("1 in 2", x.uses(0, 1, 2), true);
    CHECKS.due("that was the sixth", x.uses(0, 0, 0), false);
    CHECKS.due("the other way round", x.uses(1, 0, 1), true);
  }

  private static void usesHas6() {
    CHECKS.about("12: false if it has 6");
    for (int pack = 0; pack < 16; pack++) {
      LicenceRules x = Checks.with(0, 16);
      for (int i = 0; i < 8; i++) {
        CHECKS.due("use " + i + " of " + pack, x.uses(pack, i, i % 3), i < 6);
      }
      CHECKS.due("one that it does already", x.uses(pack, 0, 0), false);
      CHECKS.due("another package has room", x.uses((pack + 1) % 16, 0, 0), true);
    }
  }

  private static LicenceRules barredOne() {
    LicenceRules x = Checks.with(1, 2);
    Checks.express(x, 0, "a");
    x.rule(0, 0, 2, 0);
    return x;
  }

  private static void grantInPlaceOfTheOneBefore() {
    CHECKS.about("13: A GRANT that ends at a time (in place of the one before)");
    LicenceRules x = barredOne();
    x.tick(10);
    CHECKS.due("a grant", x.grant(0, 11), true);
    CHECKS.due("granted", x.review(0, 0), 0);
    CHECKS.due("one with an earlier end", x.grant(0, 10), true);
    CHECKS.due("not any more", x.review(0, 0), 1);
    CHECKS.due("one with the greatest end", x.grant(0, GREATEST), true);
    CHECKS.due("granted again", x.review(0, 0), 0);
    CHECKS.due("one that ends at once", x.grant(0, 0), true);
    CHECKS.due("not any more", x.review(0, 0), 1);
  }

  private static void grantNoneSuch() {
    CHECKS.about("13: false if there is none such");
    LicenceRules x = Checks.with(0, 3);
    LicenceRules full = Checks.with(0, 16);
    CHECKS.due("package 2", x.grant(2, 5), true);
    CHECKS.due("package 3", x.grant(3, 5), false);
    CHECKS.due("package 15 of 16", full.grant(15, 5), true);
    for (int wrong : FAR_OFF) {
      CHECKS.due("package " + wrong, x.grant(wrong, 5), false);
      CHECKS.due("of 16, package " + wrong, full.grant(wrong, 5), false);
    }
  }

  private static void grantBelow0() {
    CHECKS.about("13: false if it is below 0");
    LicenceRules x = barredOne();
    for (int end : new int[] {-1, -2, -100000, LEAST}) {
      CHECKS.due("end " + end, x.grant(0, end), false);
      CHECKS.due("no grant by it", x.review(0, 0), 1);
    }
    CHECKS.due("end 0", x.grant(0, 0), true);
    CHECKS.due("end 1", x.grant(0, 1), true);
    CHECKS.due("end -1", x.grant(0, -1), false);
    CHECKS.due("the one before stays", x.review(0, 0), 0);
  }

  private static void tickFrom0To100000() {
    CHECKS.about("14: The CLOCK goes on by n (0 .. 100000): the CLOCK");
    LicenceRules x = new LicenceRules();
    CHECKS.due("0", x.tick(0), 0);
    CHECKS.due("1", x.tick(1), 1);
    CHECKS.due("99999", x.tick(99999), 100000);
    CHECKS.due("100000", x.tick(100000), 200000);
    CHECKS.due("0 again", x.tick(0), 200000);
    for (int i = 3; i < 500; i++) {
      CHECKS.due("100000 again", x.tick(100000), i * 100000);
    }
  }

  private static void tickNoneBeyond() {
    CHECKS.about("14: NONE if it isn't so");
    LicenceRules x = new LicenceRules();
    x.tick(50);
    for (int n : new int[] {LEAST, LEAST + 50, -100000, -50, -1, 100001, 100050, GREATEST}) {
      CHECKS.due("tick " + n, x.tick(n), NONE);
      CHECKS.due("the clock stays", x.tick(0), 50);
    }
  }

  /** Takes more calls than the document promises for, since fewer can't reach the end. */
  private static void tickNoneAboveTheEnd() {
    CHECKS.about("14: NONE if it would be above 1000000000");
    LicenceRules x = barredOne();
    x.grant(0, 1000000000);
    for (int i = 0; i < 9999; i++) {
      x.tick(100000);
    }
    CHECKS.due("one below", x.tick(99999), 999999999);
    CHECKS.due("granted still", x.review(0, 0), 0);
    CHECKS.due("by 2", x.tick(2), NONE);
    CHECKS.due("by 100000", x.tick(100000), NONE);
    CHECKS.due("the clock stays", x.tick(0), 999999999);
    CHECKS.due("by 1", x.tick(1), 1000000000);
    CHECKS.due("not granted any more", x.review(0, 0), 1);
    CHECKS.due("by 1 again", x.tick(1), NONE);
    CHECKS.due("by 0", x.tick(0), 1000000000);
  }

  private static void reviewCountsBarredNotGranted() {
    CHECKS.about("15: how many ENTRIES are BARRED and not GRANTED");
    LicenceRules x = Checks.with(1, 16);
    for (int i = 0; i < 16; i++) {
      Checks.express(x, i, "a");
      for (int way = 0; way < 3; way++) {
        x.uses(i, (i + 1) % 16, way);
      }
    }
    CHECKS.due("none", x.review(3, 0), 0);
    for (int way = 0; way < 3; way++) {
      x.rule(0, way, 2, 0);
      CHECKS.due("barred in ways up to " + way, x.review(3, 0), 16 * (way + 1));
    }
    for (int i = 0; i < 16; i++) {
      x.grant(i, 1);
      CHECKS.due("granted up to " + i, x.review(3, 0), 48 - 3 * (i + 1));
    }
    x.tick(1);
    CHECKS.due("all grants have ended", x.review(3, 0), 48);
    CHECKS.due("in the greatest way only", x.review(3, 2), 16);
  }

  private static void reviewNoneSuch() {
    CHECKS.about("15: NONE if there are none such");
    LicenceRules x = Checks.with(0, 3);
    LicenceRules full = Checks.with(0, 16);
    CHECKS.due("package 3", x.review(3, 0), NONE);
    for (int wrong : FAR_OFF) {
      CHECKS.due("package " + wrong, x.review(wrong, 0), NONE);
      CHECKS.due("of 16, package " + wrong, full.review(wrong, 2), NONE);
    }
    for (int way : NO_WAYS) {
      CHECKS.due("0, way " + way, x.review(0, way), NONE);
      CHECKS.due("15, way " + way, full.review(15, way), NONE);
    }
    CHECKS.due("there was none", x.entry(0, 0), NONE);
    CHECKS.due("the last ones", full.review(15, 2), 0);
    CHECKS.due("none such", full.review(15, 3), NONE);
    CHECKS.due("the latest stays", full.entry(0, 0), 15);
  }

  private static void entryOfTheLatest() {
    CHECKS.about("16: Of an ENTRY of the latest REVIEW");
    LicenceRules x = Checks.with(0, 4);
    CHECKS.due("before", x.entry(0, 0), NONE);
    x.uses(0, 1, 0);
    x.uses(0, 2, 1);
    x.review(0, 0);
    CHECKS.due("third", x.entry(2, 0), 2);
    x.review(3, 1);
    CHECKS.due("first of the second review", x.entry(0, 0), 3);
    CHECKS.due("its way", x.entry(0, 1), 1);
    CHECKS.due("nothing of the first review", x.entry(1, 0), NONE);
    CHECKS.due("nor this", x.entry(2, 4), NONE);
  }

  private static void dueFirstEntry(LicenceRules x, int kind, int duties) {
    CHECKS.due("package", x.entry(0, 0), 0);
    CHECKS.due("way", x.entry(0, 1), 0);
    CHECKS.due("kind", x.entry(0, 2), kind);
    CHECKS.due("duties", x.entry(0, 3), duties);
    CHECKS.due("origin", x.entry(0, 4), NONE);
    CHECKS.due("all", x.all(), duties);
    CHECKS.due("no second entry", x.entry(1, 0), NONE);
    CHECKS.due("one package", x.material(1), NONE);
  }

  private static void entryAsItWasThen() {
    CHECKS.about("16: as it was then");
    LicenceRules x = Checks.with(2, 2);
    Checks.express(x, 0, "a^1");
    x.rule(0, 0, 1, 5);
    x.review(0, 0);
    x.rule(0, 0, 1, 7);
    dueFirstEntry(x, 1, 5);
    x.rule(0, 0, 2, 0);
    dueFirstEntry(x, 1, 5);
    x.lifts(1, 0, true);
    dueFirstEntry(x, 1, 5);
    x.uses(0, 1, 0);
    dueFirstEntry(x, 1, 5);
    Checks.express(x, 0, "b");
    dueFirstEntry(x, 1, 5);
    LicenceRules y = barredOne();
    y.review(0, 0);
    y.grant(0, 2);
    dueFirstEntry(y, 2, 0);
    y.review(0, 0);
    dueFirstEntry(y, 3, 0);
    y.tick(2);
    dueFirstEntry(y, 3, 0);
    y.review(0, 0);
    dueFirstEntry(y, 2, 0);
  }

  private static void entryDutiesZeroIfBarred() {
    CHECKS.about("16: 3 its DUTIES (0 if BARRED)");
    LicenceRules x = Checks.with(2, 1);
    Checks.express(x, 0, "a&b");
    x.rule(0, 0, 1, 255);
    x.review(0, 0);
    CHECKS.due("with duties", x.entry(0, 3), 255);
    x.rule(1, 0, 2, 255);
    x.review(0, 0);
    CHECKS.due("barred", x.entry(0, 3), 0);
    CHECKS.due("all", x.all(), 0);
    x.grant(0, 1);
    x.review(0, 0);
    CHECKS.due("granted", x.entry(0, 3), 0);
    CHECKS.due("all", x.all(), 0);
    Checks.express(x, 0, "b|a&a^0|a^1|a^2");
    x.review(0, 0);
    CHECKS.due("of the best choice", x.entry(0, 3), 255);
    x.lifts(2, 0, true);
    x.review(0, 0);
    CHECKS.due("of the best choice, which is free", x.entry(0, 3), 0);
    CHECKS.due("so that it is free", x.entry(0, 2), 0);
  }

  private static void entryOrigin() {
    CHECKS.about("16: 4 the place of the ENTRY by which it came (NONE: the first one)");
    LicenceRules x = Checks.with(0, 4);
    x.uses(3, 2, 0);
    x.uses(3, 1, 0);
    x.uses(2, 3, 1);
    x.uses(1, 0, 0);
    x.review(3, 0);
    int[] origins = {NONE, 0, 0, 1, 2, 3, 3, 6};
    int[] packs = {3, 2, 1, 3, 0, 2, 1, 0};
    for (int i = 0; i < origins.length; i++) {
      CHECKS.due("package of " + i, x.entry(i, 0), packs[i]);
      CHECKS.due("origin of " + i, x.entry(i, 4), origins[i]);
    }
    CHECKS.due("no more", x.entry(origins.length, 4), NONE);
  }

  private static void entryNoneSuch() {
    CHECKS.about("16: NONE if there is none such");
    LicenceRules x = Checks.with(0, 16);
    for (int what = 0; what < 5; what++) {
      CHECKS.due("before a review", x.entry(0, what), NONE);
    }
    x.uses(0, 1, 0);
    x.review(0, 0);
    for (int what = 0; what < 5; what++) {
      CHECKS.due("third of two, " + what, x.entry(2, what), NONE);
      CHECKS.due("far behind, " + what, x.entry(47, what), NONE);
      CHECKS.due("beyond all, " + what, x.entry(48, what), NONE);
      for (int wrong : FAR_OFF) {
        CHECKS.due("entry " + wrong + ", " + what, x.entry(wrong, what), NONE);
      }
    }
  }

  private static void entryOtherWhat() {
    CHECKS.about("16: NONE for another what");
    LicenceRules x = Checks.with(0, 2);
    x.uses(0, 1, 2);
    x.review(0, 1);
    for (int what : new int[] {LEAST, -2, -1, 5, 6, 256, GREATEST}) {
      CHECKS.due("first, what " + what, x.entry(0, what), NONE);
      CHECKS.due("last, what " + what, x.entry(1, what), NONE);
      CHECKS.due("none, what " + what, x.entry(2, what), NONE);
    }
    CHECKS.due("the last what that there is", x.entry(1, 4), 0);
  }

  private static void allTogether() {
    CHECKS.about("17: DUTIES of all ENTRIES of that REVIEW together");
    LicenceRules x = Checks.with(8, 16);
    for (int i = 0; i < 8; i++) {
      x.rule(i, 0, 1, 1 << i);
      Checks.express(x, i, "" + (char) ('a' + i));
      x.uses(i, i + 1, 0);
    }
    for (int i = 0; i < 9; i++) {
      x.review(i, 0);
      CHECKS.due("from " + i + " on", x.all(), 255 >> i << i);
    }
    x.uses(9, 7, 0);
    x.review(9, 0);
    CHECKS.due("the last but one has a duty", x.all(), 128);
    x.review(10, 0);
    CHECKS.due("nothing of an earlier review", x.all(), 0);
    x.rule(7, 0, 2, 0);
    x.review(0, 0);
    CHECKS.due("none of a barred one", x.all(), 127);
    x.grant(7, 5);
    x.review(0, 0);
    CHECKS.due("none of a granted one", x.all(), 127);
    x.rule(6, 0, 1, 1);
    x.review(0, 0);
    CHECKS.due("the same duty twice", x.all(), 63);
  }

  private static void allZeroBefore() {
    CHECKS.about("17: 0 before");
    LicenceRules x = Checks.with(1, 1);
    CHECKS.due("new", x.all(), 0);
    Checks.express(x, 0, "a");
    x.rule(0, 0, 1, 3);
    CHECKS.due("with duties, but no review", x.all(), 0);
    x.review(0, 5);
    x.review(5, 0);
    CHECKS.due("reviews that are none", x.all(), 0);
    x.review(0, 0);
    CHECKS.due("a review", x.all(), 3);
  }

  private static void materialOnce() {
    CHECKS.about("18: The i-th PACKAGE of that REVIEW, each once, by the order of ENTRIES");
    LicenceRules x = Checks.with(0, 16);
    for (int i = 0; i < 16; i++) {
      for (int way = 0; way < 3; way++) {
        x.uses(i, (i + 5) % 16, way);
      }
    }
    x.review(2, 0);
    for (int i = 0; i < 16; i++) {
      CHECKS.due("package " + i, x.material(i), (2 + 5 * i) % 16);
    }
    CHECKS.due("sixteen are all", x.material(16), NONE);
    LicenceRules y = Checks.with(0, 3);
    y.uses(1, 1, 2);
    y.uses(1, 0, 0);
    y.review(1, 0);
    CHECKS.due("first", y.material(0), 1);
    CHECKS.due("second", y.material(1), 0);
    CHECKS.due("no third", y.material(2), NONE);
  }

  private static void materialNoneSuch() {
    CHECKS.about("18: NONE if there is none such");
    LicenceRules x = Checks.with(0, 3);
    CHECKS.due("before a review", x.material(0), NONE);
    x.uses(0, 1, 1);
    x.uses(1, 0, 2);
    x.review(0, 0);
    CHECKS.due("the last", x.material(1), 1);
    CHECKS.due("there are more entries", x.entry(3, 0), 1);
    CHECKS.due("but no third package", x.material(2), NONE);
    for (int wrong : FAR_OFF) {
      CHECKS.due("place " + wrong, x.material(wrong), NONE);
    }
    x.review(2, 0);
    CHECKS.due("nothing of an earlier review", x.material(1), NONE);
  }

  private static void foundOther() {
    CHECKS.about("19: (other 0), or the second one with the same SCORE, the lesser number first");
    LicenceRules x = new LicenceRules();
    x.licence(0b11L);
    x.licence(0b1111L);
    x.licence(0b111L);
    x.licence(0b1111L);
    CHECKS.due("the lesser number", x.found(0b1111L, 0), 1);
    CHECKS.due("the greater number", x.found(0b1111L, 1), 3);
    CHECKS.due("one alone", x.found(0b111L, 0), 2);
    CHECKS.due("its second", x.found(0b111L, 1), NONE);
    for (int i = 4; i < 16; i++) {
      x.licence(0b111L);
    }
    CHECKS.due("the first of many", x.found(0b111L, 0), 2);
    CHECKS.due("the second of many", x.found(0b111L, 1), 4);
  }

  private static void foundNoneSuch() {
    CHECKS.about("19: NONE if there is none such");
    LicenceRules x = new LicenceRules();
    CHECKS.due("no licences", x.found(-1L, 0), NONE);
    CHECKS.due("no licences, second", x.found(-1L, 1), NONE);
    x.licence(0b11111L);
    x.licence(0b11111L);
    CHECKS.due("40 of two", x.found(0b11L, 0), NONE);
    CHECKS.due("40 of two, second", x.found(0b11L, 1), NONE);
    CHECKS.due("60 of two", x.found(0b111L, 0), 0);
    CHECKS.due("60 of two, second", x.found(0b111L, 1), 1);
    CHECKS.due("nothing in common", x.found(0b11100000L, 0), NONE);
    CHECKS.due("no words", x.found(0L, 0), NONE);
  }

  private static void foundForAnotherOther() {
    CHECKS.about("19: NONE for another other");
    LicenceRules x = new LicenceRules();
    for (int i = 0; i < 16; i++) {
      x.licence(1L);
    }
    for (int other : new int[] {LEAST, -2, -1, 2, 3, 15, 256, 257, GREATEST}) {
      CHECKS.due("other " + other, x.found(1L, other), NONE);
    }
    CHECKS.due("other 0", x.found(1L, 0), 0);
    CHECKS.due("other 1", x.found(1L, 1), 1);
  }

  private static void scoreNoneSuch() {
    CHECKS.about("20: NONE if there is none such");
    LicenceRules x = new LicenceRules();
    CHECKS.due("no licences", x.score(0L, 0), NONE);
    x.licence(1L);
    x.licence(1L);
    x.licence(1L);
    LicenceRules full = Checks.with(16, 0);
    CHECKS.due("licence 2", x.score(1L, 2), 100);
    CHECKS.due("licence 3", x.score(1L, 3), NONE);
    CHECKS.due("licence 15", x.score(0L, 15), NONE);
    CHECKS.due("licence 15 of 16", full.score(0L, 15), 0);
    for (int wrong : FAR_OFF) {
      CHECKS.due("licence " + wrong, x.score(1L, wrong), NONE);
      CHECKS.due("of 16, licence " + wrong, full.score(0L, wrong), NONE);
    }
  }

  private static void answersUpToThe512thCall() {
    CHECKS.about("An object is used for at most 512 calls after it has been made");
    LicenceRules x = Checks.with(16, 16);
    for (int i = 32; i < 400; i++) {
      x.uses(i % 16, i / 16 % 16, i % 3);
    }
    String text = "(a|b|c|d|e)&(f|g|h|i)";
    for (int round = 0; round < 4; round++) {
      CHECKS.due("express", Checks.express(x, round, text), 20);
    }
    for (int i = 488; i < 510; i++) {
      CHECKS.due("review", x.review(i % 16, 0), 0);
    }
    CHECKS.due("the 511th", x.material(0), 13);
    CHECKS.due("the 512th", x.pair(3, 19, 1), 72);
  }
}
