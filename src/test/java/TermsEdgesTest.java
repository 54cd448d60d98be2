/**
 * The document's "Terms", a method for each sentence that names a boundary: each begins with the
 * sentence's own words, and keeps to 512 calls on an object.
 */
public final class TermsEdgesTest {
  private static final int NONE = LicenceRules.NONE;
  private static final int FREE = 0;
  private static final int DUTIES = 1;
  private static final int BARRED = 2;
  /** Twenty CHOICES by & alone, and by | alone. */
  private static final String TWENTY = "(a|b|c|d)&(e|f|g|h|i)";
  private static final String TWENTY_EITHER = "a|b|c|d|e|f|g|h|i|j|k|l|m|n|o|p|a^0|b^0|c^0|d^0";
  private static final Checks CHECKS = new Checks();

  public static void main(String[] args) {
    licencesAtMost16();
    licencesAreNamedInOrder();
    textOfAtMost60();
    textOfCharacters32To126();
    anyBlanksBetweenTokens();
    digit0To7();
    atMost10Brackets();
    illAtTheFirstCharacter();
    illByPlace();
    illByName();
    illByEleventhBracket();
    illAtTheTextsLength();
    codes();
    choicesInOrder();
    leftOut();
    leftOutLikeOnes();
    tooManyAtEither();
    tooManyAtAlso();
    tooManyAfterLeavingOut();
    tooManyAtSome();
    illCountsFirst();
    freeAtFirst();
    dutiesBits();
    liftsNotAtFirst();
    liftsWhateverTheRule();
    choiceBarredByOnePair();
    choiceDutiesTogether();
    bestNotBarred();
    bestFewestDuties();
    bestFewestPairs();
    bestFirst();
    packagesAtMost16();
    packageWithoutExpressionIsFree();
    usesAtMost6();
    usesInRings();
    usesOnceForEachWay();
    reviewOfItself();
    reviewInTheGreaterWay();
    reviewOnce();
    reviewInRounds();
    entryKinds();
    entryGrantedBelowItsEnd();
    scoreRoundedDown();
    scoreZeroWithoutWords();
    wordsBits0To63();
    found60OrMore();
    foundSecond();
    CHECKS.end();
  }

  private static void dueIll(LicenceRules x, String text, int place) {
    CHECKS.due("express of '" + text + "'", Checks.express(x, 0, text), -1 - place);
  }

  private static void dueCount(LicenceRules x, String text, int count) {
    CHECKS.due("express of '" + text + "'", Checks.express(x, 0, text), count);
  }

  private static void licencesAtMost16() {
    CHECKS.about("LICENCES, at most 16");
    LicenceRules x = Checks.with(15, 1);
    CHECKS.due("sixteenth", x.licence(1L), 15);
    CHECKS.due("seventeenth", x.licence(2L), NONE);
    CHECKS.due("eighteenth", x.licence(4L), NONE);
    CHECKS.due("the last one", x.score(1L, 15), 100);
    CHECKS.due("none behind it", x.score(1L, 16), NONE);
  }

  private static void licencesAreNamedInOrder() {
    CHECKS.about("have the names a, b, .. in the order in which they come");
    LicenceRules x = Checks.with(0, 1);
    for (int i = 0; i < 16; i++) {
      String name = "" + (char) ('a' + i);
      dueIll(x, name, 0);
      CHECKS.due("licence " + i, x.licence(0L), i);
      dueCount(x, name, 1);
      CHECKS.due("licence of " + name, x.pair(0, 0, 0), 9 * i);
    }
    x.licence(0L);
    dueIll(x, "q", 0);
  }

  private static void textOfAtMost60() {
    CHECKS.about("a text of at most 60 characters");
    LicenceRules x = Checks.with(2, 1);
    dueCount(x, "a|" + " ".repeat(57) + "b", 2);
    dueCount(x, "a|" + " ".repeat(56) + "b", 2);
    // The last character is one too many, so that it isn't in the text.
    dueIll(x, "a|" + " ".repeat(58) + "b", 60);
    dueCount(x, "a" + " ".repeat(59) + "|", 1);
  }

  private static void textOfCharacters32To126() {
    CHECKS.about("characters (32 .. 126)");
    LicenceRules x = Checks.with(1, 1);
    for (int c = 0; c < 300; c++) {
      CHECKS.due("type of " + c, x.type((char) c), c >= 32 && c <= 126 && c < 32 + 60);
    }
    CHECKS.due("all from 32 on, of which 33 is the first ill one", x.express(0), -2);
    for (int c = 92; c <= 127; c++) {
      CHECKS.due("type of " + c, x.type((char) c), c <= 126);
    }
    CHECKS.due("the greatest", x.type((char) 65535), false);
    CHECKS.due("a's low byte", x.type((char) (256 + 'a')), false);
  }

  private static void anyBlanksBetweenTokens() {
    CHECKS.about("with any blanks between TOKENS");
    LicenceRules x = Checks.with(3, 1);
    String want = "3 9|3 18|10";
    dueCount(x, "a^2&(b|c)|b^0", 3);
    CHECKS.dueForm("no blank", x, 0, want);
    dueCount(x, " a ^ 2 & ( b | c ) | b ^ 0 ", 3);
    CHECKS.dueForm("one blank", x, 0, want);
    dueCount(x, "   a   ^   2   &   (   b   |   c   )   |   b   ^   0", 3);
    CHECKS.dueForm("three blanks", x, 0, want);
    dueIll(x, "a b", 2);
    dueIll(x, "a ^ 2 3", 6);
  }

  private static void digit0To7() {
    CHECKS.about("perhaps with ^ and a digit 0 .. 7 behind it");
    LicenceRules x = Checks.with(2, 1);
    for (int c = 32; c < 127; c++) {
      int digit = c - '0';
      if (digit >= 0 && digit <= 7) {
        dueCount(x, "b^" + (char) c, 1);
        CHECKS.due("code of ^" + (char) c, x.pair(0, 0, 0), 9 + digit + 1);
      } else {
        dueIll(x, "b^" + (char) c, c == ' ' ? 3 : 2);
      }
    }
  }

  private static void atMost10Brackets() {
    CHECKS.about("At most 10 brackets are open within one another");
    LicenceRules x = Checks.with(2, 1);
    String ten = "(".repeat(10);
    String closed = ")".repeat(10);
    dueCount(x, ten + "a" + closed, 1);
    dueIll(x, "(" + ten + "a" + closed + ")", 10);
    dueCount(x, ten + "a" + closed + "&" + ten + "b" + closed, 1);
    dueCount(x, ten + "a)|(b" + closed, 2);
    dueCount(x, "(a)|".repeat(12) + "(b)", 2);
    dueIll(x, ten + "a))|((b|(a", 18);
    dueIll(x, "a|" + ten + "(", 12);
    dueIll(x, "(".repeat(60), 10);
  }

  private static void illAtTheFirstCharacter() {
    CHECKS.about("ILL at the first character that can't be where it is");
    LicenceRules x = Checks.with(2, 1);
    dueIll(x, "&", 0);
    dueIll(x, "a&&b||", 2);
    dueIll(x, "a|b)c", 3);
    dueIll(x, "a^9^9", 2);
    dueIll(x, "  z  z", 2);
    dueIll(x, "(a&b)(", 5);
    dueIll(x, " ".repeat(59) + ")", 59);
    // A later fault, or an end that comes too early, counts for nothing then.
    dueIll(x, "((a|x", 4);
  }

  /** Each character behind each kind of beginning. */
  private static void illByPlace() {
    CHECKS.about("ILL at the first character that can't be where it is: by the place's kind");
    String[][] kinds = {
      {"", "ab("}, {"(", "ab("}, {"a&", "ab("}, {"a|", "ab("}, {"(a|(", "ab("},
      {"a", "^&|"}, {"(a", "^&|)"}, {"a^", "01234567"}, {"(a^", "01234567"},
      {"a^7", "&|"}, {"(a^7", "&|)"}, {"(a)", "&|"}, {"((a)", "&|)"}, {"a|(b)", "&|"}
    };
    for (String[] kind : kinds) {
      int length = kind[0].length();
      for (char c = 33; c < 127; c++) {
        LicenceRules x = Checks.with(2, 1);
        String text = kind[0] + c + '~';
        dueIll(x, text, kind[1].indexOf(c) < 0 ? length : length + 1);
      }
    }
  }

  private static void illByName() {
    CHECKS.about("ILL: a name that no LICENCE has, too");
    LicenceRules x = Checks.with(3, 1);
    dueCount(x, "c", 1);
    dueIll(x, "d", 0);
    dueIll(x, "z", 0);
    dueIll(x, "C", 0);
    dueIll(x, "`", 0);
    dueIll(x, "a&(b|d)", 5);
    CHECKS.due("a fourth one", x.licence(0L), 3);
    dueCount(x, "a&(b|d)", 2);
    LicenceRules none = Checks.with(0, 1);
    dueIll(none, "a", 0);
  }

  private static void illByEleventhBracket() {
    CHECKS.about("ILL: an eleventh bracket");
    LicenceRules x = Checks.with(2, 1);
    dueIll(x, "(".repeat(11), 10);
    dueIll(x, "(".repeat(10), 10);
    dueIll(x, " ( ( ( ( ( ( ( ( ( ( ( a", 21);
    dueIll(x, "(a)&" + "(".repeat(11), 14);
  }

  private static void illAtTheTextsLength() {
    CHECKS.about("ILL at the text's length if it ends too early");
    LicenceRules x = Checks.with(2, 1);
    dueIll(x, "", 0);
    dueIll(x, " ", 1);
    dueIll(x, "a|", 2);
    dueIll(x, "a&   ", 5);
    dueIll(x, "a^", 2);
    dueIll(x, "(a", 2);
    dueIll(x, "((a)  ", 6);
    dueIll(x, "(a^1", 4);
    dueIll(x, " ".repeat(60), 60);
    dueIll(x, "a|".repeat(30), 60);
    dueIll(x, "(" + " ".repeat(58) + "a", 60);
  }

  private static void codes() {
    CHECKS.about("its CODE is 9 times the LICENCE's number (from 0), and the digit and 1 (none: 0)");
    for (int licence = 0; licence < 16; licence++) {
      LicenceRules x = Checks.with(16, 1);
      char name = (char) ('a' + licence);
      dueCount(x, "" + name, 1);
      CHECKS.due("code of " + name, x.pair(0, 0, 0), 9 * licence);
      for (int digit = 0; digit < 8; digit++) {
        dueCount(x, name + "^" + digit, 1);
        CHECKS.due("code of " + name + "^" + digit, x.pair(0, 0, 0), 9 * licence + digit + 1);
      }
      CHECKS.due("one pair alone", x.pair(0, 0, 1), NONE);
    }
  }

  private static void choicesInOrder() {
    CHECKS.about("of A | B those of A, then those of B; of A & B, for each of A, for each of B");
    LicenceRules x = Checks.with(16, 1);
    dueCount(x, "c|b|a", 3);
    CHECKS.dueForm("c|b|a", x, 0, "18|9|0");
    dueCount(x, "(d|c)&(b|a)", 4);
    CHECKS.dueForm("(d|c)&(b|a)", x, 0, "9 27|0 27|9 18|0 18");
    dueCount(x, "c|b&a|d", 3);
    CHECKS.dueForm("c|b&a|d", x, 0, "18|0 9|27");
    dueCount(x, TWENTY, 20);
    CHECKS.due("the twentieth's last pair", x.pair(0, 19, 1), 9 * 8);
    CHECKS.due("the fifth's last pair", x.pair(0, 4, 1), 9 * 8);
    CHECKS.due("the sixth's first pair", x.pair(0, 5, 0), 9);
  }

  private static void leftOut() {
    CHECKS.about("CHOICES that have all PAIRS of another one in the row are left out");
    LicenceRules x = Checks.with(16, 1);
    dueCount(x, "a|a&b", 1);
    CHECKS.dueForm("behind it", x, 0, "0");
    dueCount(x, "a&b|c|a", 2);
    CHECKS.dueForm("before it", x, 0, "18|0");
    dueCount(x, "a&b|a&c|a&d|a", 1);
    CHECKS.dueForm("several before it", x, 0, "0");
    dueCount(x, "a&b|p^7&b|a&c|i&b|b^7|a", 4);
    CHECKS.dueForm("those between them stay", x, 0, "9 143|9 72|17|0");
    dueCount(x, "a&b|b&c", 2);
    CHECKS.dueForm("one in common isn't all", x, 0, "0 9|9 18");
    dueCount(x, "a^0&b|a", 2);
    CHECKS.dueForm("another exception is another pair", x, 0, "1 9|0");
    dueCount(x, "(a|b)&a", 1);
    CHECKS.dueForm("at &", x, 0, "0");
    dueCount(x, "b&(a|b)&c", 1);
    CHECKS.dueForm("at &, the later one", x, 0, "9 18");
    dueCount(x, "h&i|p&o^5|(p&o^5&h|i^7&i&h)", 2);
    CHECKS.dueForm("codes above 63 and 127", x, 0, "63 72|132 135");
    for (String two : new String[] {"a&b", "h&i", "i&j", "n&o", "o^5&p", "a&p", "g^7&p^7"}) {
      String late = two.substring(two.indexOf('&') + 1);
      dueCount(x, two + "|" + late, 1);
      CHECKS.due("the later one alone of " + two, x.pair(0, 0, 1), NONE);
      dueCount(x, late + "|" + two, 1);
      CHECKS.due("the earlier one alone of " + two, x.pair(0, 0, 1), NONE);
    }
    dueCount(x, "h&p|i&p|p^7&h|p&h^1", 4);
    CHECKS.dueForm("none is left out", x, 0, "63 135|72 135|63 143|65 135");
  }

  private static void leftOutLikeOnes() {
    CHECKS.about("of like ones all but the first");
    LicenceRules x = Checks.with(16, 1);
    dueCount(x, "a|a", 1);
    dueCount(x, "a|b|a", 2);
    CHECKS.dueForm("the first stays", x, 0, "0|9");
    dueCount(x, "a&b|c|b&a|c", 2);
    CHECKS.dueForm("in another order", x, 0, "0 9|18");
    dueCount(x, "(a|b)&(a|b)", 2);
    CHECKS.dueForm("at &", x, 0, "0|9");
    dueCount(x, "a^3|b|a^3|a^2", 3);
    CHECKS.dueForm("with exceptions", x, 0, "4|9|3");
  }

  private static void tooManyAtEither() {
    CHECKS.about("If at some | more than 20 are left then, it is TOO MANY");
    LicenceRules x = Checks.with(16, 1);
    dueCount(x, TWENTY_EITHER, 20);
    CHECKS.due("the twentieth", x.pair(0, 19, 0), 28);
    dueCount(x, TWENTY_EITHER + "|e^0", -100);
    dueCount(x, "(" + TWENTY_EITHER + "|e^0)", -100);
    dueCount(x, TWENTY + "|j", -100);
    dueCount(x, "j|" + TWENTY, -100);
  }

  private static void tooManyAtAlso() {
    CHECKS.about("If at some & more than 20 are left then, it is TOO MANY");
    LicenceRules x = Checks.with(16, 1);
    dueCount(x, "(a|b|c|d|e)&(f|g|h|i)", 20);
    dueCount(x, "(a|b)&(c|d|e|f|g|h|i|j|k|l)", 20);
    dueCount(x, "(a|b|c)&(d|e|f|g|h|i|j)", -100);
    dueCount(x, "(a|b)&(c|d|e)&(f|g|h|i)", -100);
    dueCount(x, TWENTY + "&(j|k)", -100);
    dueCount(x, TWENTY + "&j", 20);
    dueCount(x, TWENTY + "&((j|k|l|m)&(n|o|p|a^1|b^1))", -100);
  }

  private static void tooManyAfterLeavingOut() {
    CHECKS.about("more than 20 are left then: those left out don't count");
    LicenceRules x = Checks.with(16, 1);
    dueCount(x, TWENTY + "|a&e", 20);
    dueCount(x, TWENTY + "|a&e&j", 20);
    dueCount(x, TWENTY + "|e", 17);
    dueCount(x, "(" + TWENTY + ")&(" + TWENTY + ")", 20);
    dueCount(x, "(a|b|c|d|e)&(a|b|c|d|e)", 5);
    dueCount(x, "(" + TWENTY + ")|" + TWENTY, 20);
    CHECKS.due("the twentieth", x.pair(0, 19, 1), 72);
    // 19 by 20 CHOICES, of which only the last 20 leave out all others.
    dueCount(x, "((a|b|c)&(d|e|f|g|h|i)|p)&(p&(j|k|l|m)&(n|o|a^1|b^1|c^1))", 20);
    CHECKS.due("the first's pair", x.pair(0, 0, 0), 81);
    CHECKS.due("the last's pair", x.pair(0, 19, 0), 20);
    CHECKS.due("three pairs", x.pair(0, 19, 2), 135);
    CHECKS.due("no fourth", x.pair(0, 19, 3), NONE);
    // Of 10 by 11 some of the first stay, too: those with o.
    dueCount(x, "((a|b|c)&(d|e|f)|p)&(p&(h|i)&(j|k|l|m|n)|o)", 20);
    CHECKS.due("the ninth's last pair", x.pair(0, 8, 2), 126);
    CHECKS.due("the tenth's last pair", x.pair(0, 9, 2), 135);
    CHECKS.due("the last's first pair", x.pair(0, 19, 0), 126);
    dueCount(x, "((a|b)&(c|d|e|f|g)|p)&(p&(h|i)&(j|k|l|m|n)|o)", -100);
  }

  private static void tooManyAtSome() {
    CHECKS.about("at some | or &: fewer at the end don't help");
    LicenceRules x = Checks.with(16, 1);
    dueCount(x, TWENTY + "|j|a|b|c|d", -100);
    dueCount(x, "a|b|c|(a|b|c)&(d|e|f|g|h|i|j)", -100);
    dueCount(x, "(a|b|c)&(d|e|f|g|h|i|j)&a&b&c", -100);
    dueCount(x, "((a|b|c)&(d|e|f|g|h|i|j)|a|b|c)&a", -100);
    CHECKS.due("no expression by all of them", x.choices(0), 0);
    dueCount(x, "a", 1);
  }

  private static void illCountsFirst() {
    CHECKS.about("ILL counts first");
    LicenceRules x = Checks.with(16, 1);
    dueIll(x, TWENTY + "|j|", 24);
    dueIll(x, TWENTY + "|j)", 23);
    dueIll(x, "(" + TWENTY + "|j", 24);
    dueIll(x, TWENTY_EITHER + "|e^0|q", 52);
    dueIll(x, TWENTY_EITHER + "|e^0" + " ".repeat(8) + "|", 60);
  }

  private static void freeAtFirst() {
    CHECKS.about("for a LICENCE and a WAY of use: FREE (at first)");
    LicenceRules x = Checks.with(16, 16);
    for (int i = 0; i < 16; i++) {
      Checks.express(x, i, "" + (char) ('a' + i));
      for (int way = 0; way < 3; way++) {
        CHECKS.due("best of " + i + " in " + way, x.best(i, way), 0);
        CHECKS.due("duties of " + i + " in " + way, x.duties(i, way), 0);
        CHECKS.due("review of " + i + " in " + way, x.review(i, way), 0);
        CHECKS.due("kind of " + i + " in " + way, x.entry(0, 2), FREE);
      }
    }
  }

  private static void dutiesBits() {
    CHECKS.about("DUTIES (bits 0 .. 7, at least one)");
    LicenceRules x = Checks.with(16, 1);
    Checks.express(x, 0, "p");
    for (int bit = 0; bit < 32; bit++) {
      CHECKS.due("bit " + bit, x.rule(15, 2, 1, 1 << bit), bit < 8);
      CHECKS.due("duties by bit " + bit, x.duties(0, 2), bit < 8 ? 1 << bit : 128);
    }
    CHECKS.due("none", x.rule(15, 2, 1, 0), false);
    CHECKS.due("all", x.rule(15, 2, 1, 255), true);
    CHECKS.due("duties by all", x.duties(0, 2), 255);
  }

  private static void liftsNotAtFirst() {
    CHECKS.about("For an EXCEPTION and a WAY: it LIFTS or doesn't (at first)");
    LicenceRules x = Checks.with(1, 8);
    for (int way = 0; way < 3; way++) {
      x.rule(0, way, 1, 1 << way);
    }
    for (int e = 0; e < 8; e++) {
      Checks.express(x, e, "a^" + e);
      for (int way = 0; way < 3; way++) {
        CHECKS.due("duties with " + e + " in " + way, x.duties(e, way), 1 << way);
      }
    }
  }

  private static void liftsWhateverTheRule() {
    CHECKS.about("a PAIR with an EXCEPTION that LIFTS is FREE in that WAY, whatever the RULE is");
    for (int lifted = 0; lifted < 24; lifted++) {
      LicenceRules x = Checks.with(2, 9);
      for (int way = 0; way < 3; way++) {
        x.rule(0, way, BARRED, 0);
        x.rule(1, way, DUTIES, 6);
      }
      CHECKS.due("lifts", x.lifts(lifted / 3, lifted % 3, true), true);
      for (int e = 0; e < 8; e++) {
        Checks.express(x, e, "a^" + e + "&b^" + e);
        for (int way = 0; way < 3; way++) {
          int want = e * 3 + way == lifted ? 0 : NONE;
          CHECKS.due("best with " + e + " in " + way, x.best(e, way), want);
          CHECKS.due("no duties with " + e + " in " + way, x.duties(e, way), 0);
        }
      }
      int digit = lifted / 3;
      int way = lifted % 3;
      Checks.express(x, 8, "b&b^" + digit);
      CHECKS.due("a pair without an exception", x.duties(8, way), 6);
      Checks.express(x, 8, "a|b&a^" + digit);
      CHECKS.due("with a pair that isn't barred any more", x.best(8, way), 1);
      Checks.express(x, 8, "b^" + digit);
      CHECKS.due("duties are lifted", x.duties(8, way), 0);
      CHECKS.due("in that way only", x.duties(8, (way + 1) % 3), 6);
    }
  }

  private static void choiceBarredByOnePair() {
    CHECKS.about("A CHOICE is BARRED in a WAY if one of its PAIRS is");
    for (int barred = 0; barred < 16; barred++) {
      LicenceRules x = Checks.with(16, 1);
      Checks.express(x, 0, "a&b&c&d&e&f&g&h&i&j&k&l&m&n&o&p");
      CHECKS.due("none is", x.best(0, 1), 0);
      x.rule(barred, 1, BARRED, 0);
      CHECKS.due("licence " + barred + " is", x.best(0, 1), NONE);
      CHECKS.due("not in another way", x.best(0, 0), 0);
      CHECKS.due("review", x.review(0, 1), 1);
    }
  }

  private static void choiceDutiesTogether() {
    CHECKS.about("else its DUTIES are those of its PAIRS together");
    LicenceRules x = Checks.with(16, 1);
    Checks.express(x, 0, "a&b&h&p^7");
    int[] licences = {0, 1, 7, 15};
    int joined = 0;
    for (int i = 0; i < 4; i++) {
      CHECKS.due("before " + i, x.duties(0, 0), joined);
      x.rule(licences[i], 0, DUTIES, 3 << (2 * i));
      joined |= 3 << (2 * i);
    }
    CHECKS.due("all eight", x.duties(0, 0), 255);
    x.rule(15, 0, DUTIES, 1);
    CHECKS.due("the same ones are told once", x.duties(0, 0), 63);
    x.rule(15, 0, BARRED, 255);
    CHECKS.due("none if barred", x.duties(0, 0), 0);
  }

  private static void bestNotBarred() {
    CHECKS.about("THE BEST CHOICE: of those that aren't BARRED");
    LicenceRules x = Checks.with(16, 1);
    dueCount(x, TWENTY_EITHER, 20);
    x.rule(3, 0, DUTIES, 255);
    for (int i = 0; i < 16; i++) {
      if (i != 3) {
        CHECKS.due("the first that isn't", x.best(0, 0), i);
        x.rule(i, 0, BARRED, 0);
      }
      if (i == 2) {
        // With all DUTIES it is the last one to be taken.
        CHECKS.due("not that with duties", x.best(0, 0), 4);
      }
    }
    CHECKS.due("that with all duties", x.best(0, 0), 3);
    CHECKS.due("all duties", x.duties(0, 0), 255);
    x.lifts(0, 0, true);
    CHECKS.due("lifted, not barred", x.best(0, 0), 16);
    x.rule(3, 0, BARRED, 0);
    x.lifts(0, 0, false);
    CHECKS.due("all are barred", x.best(0, 0), NONE);
  }

  private static void bestFewestDuties() {
    CHECKS.about("THE BEST CHOICE: that with the fewest DUTIES");
    LicenceRules x = Checks.with(16, 1);
    dueCount(x, "p|a&b&c&d&e&f&g&h&i&j&k&l&m&n&o&a^0&b^0&c^0&d^0&e^0&f^0&g^0", 2);
    CHECKS.due("as many pairs as a text has room for", x.pair(0, 1, 21), 126);
    for (int more = 0; more < 8; more++) {
      x.rule(15, 1, DUTIES, (2 << more) - 1);
      x.rule(14, 1, more == 0 ? FREE : DUTIES, (1 << more) - 1);
      CHECKS.due(more + " of 22 pairs before " + (more + 1) + " of one", x.best(0, 1), 1);
    }
    x.rule(14, 1, DUTIES, 7);
    x.rule(15, 1, DUTIES, 192);
    CHECKS.due("by how many they are, not by their bits", x.best(0, 1), 0);
    x.rule(14, 1, DUTIES, 128);
    x.rule(13, 1, DUTIES, 128);
    x.rule(15, 1, DUTIES, 3);
    CHECKS.due("the same duty of two pairs is one", x.best(0, 1), 1);
  }

  private static void bestFewestPairs() {
    CHECKS.about("THE BEST CHOICE: of these that with the fewest PAIRS");
    LicenceRules x = Checks.with(16, 1);
    dueCount(x, "a&b&c|d&e|f&g|h&i&j&k|l&m&p^7", 5);
    CHECKS.due("all free", x.best(0, 2), 1);
    for (int i = 0; i < 16; i++) {
      x.rule(i, 2, DUTIES, 128);
    }
    CHECKS.due("all with one duty", x.best(0, 2), 1);
    x.rule(3, 2, BARRED, 0);
    CHECKS.due("the next of two pairs", x.best(0, 2), 2);
    x.rule(5, 2, BARRED, 0);
    CHECKS.due("then the first of three", x.best(0, 2), 0);
    x.rule(0, 2, BARRED, 0);
    CHECKS.due("then the other of three, before four", x.best(0, 2), 4);
  }

  private static void bestFirst() {
    CHECKS.about("THE BEST CHOICE: of these the first one");
    LicenceRules x = Checks.with(16, 1);
    dueCount(x, TWENTY, 20);
    CHECKS.due("all are alike", x.best(0, 0), 0);
    for (int i = 0; i < 9; i++) {
      x.rule(i, 0, DUTIES, 1);
    }
    CHECKS.due("all are alike with a duty", x.best(0, 0), 0);
    x.rule(3, 0, FREE, 0);
    x.rule(8, 0, FREE, 0);
    CHECKS.due("the last one alone is free", x.best(0, 0), 19);
    x.rule(2, 0, FREE, 0);
    CHECKS.due("one of two free ones", x.best(0, 0), 14);
  }

  private static void packagesAtMost16() {
    CHECKS.about("PACKAGES, at most 16, numbered from 0");
    LicenceRules x = new LicenceRules();
    for (int i = 0; i < 16; i++) {
      CHECKS.due("package " + i, x.pack(), i);
    }
    CHECKS.due("seventeenth", x.pack(), NONE);
    CHECKS.due("eighteenth", x.pack(), NONE);
    CHECKS.due("the last one", x.choices(15), 0);
    CHECKS.due("none behind it", x.choices(16), NONE);
  }

  private static void packageWithoutExpressionIsFree() {
    CHECKS.about("have an EXPRESSION (or none at first: such a one is FREE)");
    LicenceRules x = Checks.with(1, 2);
    Checks.express(x, 1, "a");
    for (int way = 0; way < 3; way++) {
      x.rule(0, way, BARRED, 0);
      CHECKS.due("review of one that is barred", x.review(1, way), 1);
      CHECKS.due("review", x.review(0, way), 0);
      CHECKS.due("kind", x.entry(0, 2), FREE);
      CHECKS.due("duties", x.entry(0, 3), 0);
      CHECKS.due("best", x.best(0, way), NONE);
    }
    x.grant(0, 9);
    x.review(0, 0);
    CHECKS.due("not granted", x.entry(0, 2), FREE);
    Checks.express(x, 0, "a|");
    x.review(0, 0);
    CHECKS.due("none by an ill text", x.entry(0, 2), FREE);
    Checks.express(x, 0, "a");
    x.review(0, 0);
    CHECKS.due("not any more", x.entry(0, 2), 3);
  }

  private static void usesAtMost6() {
    CHECKS.about("USE others in a WAY, at most 6");
    LicenceRules x = Checks.with(0, 16);
    for (int other = 1; other < 16; other++) {
      CHECKS.due("0 uses " + other, x.uses(0, other, 0), other <= 6);
    }
    CHECKS.due("15 uses 15", x.uses(15, 15, 2), true);
    x.review(0, 0);
    CHECKS.due("the sixth is there", x.entry(6, 0), 6);
    CHECKS.due("the seventh isn't", x.entry(7, 0), NONE);
  }

  private static void usesInRings() {
    CHECKS.about("rings may be");
    LicenceRules x = Checks.with(0, 16);
    CHECKS.due("itself", x.uses(0, 0, 0), true);
    CHECKS.due("review", x.review(0, 0), 0);
    CHECKS.due("one entry", x.entry(1, 0), NONE);
    CHECKS.due("itself in a greater way", x.uses(0, 0, 2), true);
    CHECKS.due("review", x.review(0, 0), 0);
    CHECKS.due("two entries", x.entry(1, 1), 2);
    CHECKS.due("not three", x.entry(2, 0), NONE);
    for (int i = 1; i < 16; i++) {
      CHECKS.due("ring", x.uses(i, i == 15 ? 1 : i + 1, 0), true);
    }
    CHECKS.due("review", x.review(9, 1), 0);
    CHECKS.due("all of the ring", x.entry(14, 0), 8);
    CHECKS.due("came by", x.entry(14, 4), 13);
    CHECKS.due("no more", x.entry(15, 0), NONE);
  }

  private static void usesOnceForEachWay() {
    CHECKS.about("the same one once for each WAY");
    LicenceRules x = Checks.with(0, 2);
    for (int way = 0; way < 3; way++) {
      CHECKS.due("in " + way, x.uses(0, 1, way), true);
      CHECKS.due("again in " + way, x.uses(0, 1, way), false);
      CHECKS.due("itself in " + way, x.uses(0, 0, way), true);
      CHECKS.due("itself again in " + way, x.uses(0, 0, way), false);
    }
    CHECKS.due("the first one again", x.uses(0, 1, 0), false);
    CHECKS.due("the other way round", x.uses(1, 0, 0), true);
  }

  private static void reviewOfItself() {
    CHECKS.about("the PACKAGE itself, in the WAY that is told");
    LicenceRules x = Checks.with(0, 16);
    for (int pack = 0; pack < 16; pack++) {
      for (int way = 0; way < 3; way++) {
        CHECKS.due("review", x.review(pack, way), 0);
        CHECKS.due("package", x.entry(0, 0), pack);
        CHECKS.due("way", x.entry(0, 1), way);
        CHECKS.due("came by none", x.entry(0, 4), NONE);
        CHECKS.due("it alone", x.entry(1, 0), NONE);
      }
    }
  }

  private static void reviewInTheGreaterWay() {
    CHECKS.about("each one that a PACKAGE in a WAY v USES in a WAY w comes in the greater one");
    for (int v = 0; v < 3; v++) {
      for (int w = 0; w < 3; w++) {
        for (int u = 0; u < 3; u++) {
          LicenceRules x = Checks.with(0, 3);
          x.uses(0, 1, w);
          x.uses(1, 2, u);
          x.review(0, v);
          String name = v + ", " + w + ", " + u;
          CHECKS.due(name + ": first", x.entry(0, 1), v);
          CHECKS.due(name + ": second", x.entry(1, 1), Math.max(v, w));
          CHECKS.due(name + ": third", x.entry(2, 1), Math.max(v, Math.max(w, u)));
        }
      }
    }
  }

  private static void reviewOnce() {
    CHECKS.about("Each PACKAGE in each WAY once");
    LicenceRules x = Checks.with(0, 16);
    for (int i = 0; i < 16; i++) {
      for (int way = 0; way < 3; way++) {
        x.uses(i, (i + 1) % 16, way);
        x.uses(i, i, way);
      }
    }
    CHECKS.due("review", x.review(5, 0), 0);
    boolean[] seen = new boolean[48];
    for (int i = 0; i < 48; i++) {
      int one = x.entry(i, 0) * 3 + x.entry(i, 1);
      CHECKS.due("entry " + i, one >= 0 && one < 48 && !seen[Math.floorMod(one, 48)], true);
      seen[Math.floorMod(one, 48)] = true;
    }
    CHECKS.due("forty-eight are all", x.entry(48, 0), NONE);
    x.review(5, 2);
    CHECKS.due("in the greatest way sixteen", x.entry(15, 0), 4);
    CHECKS.due("are all", x.entry(16, 0), NONE);
  }

  private static void dueWalk(LicenceRules x, int... want) {
    for (int i = 0; 3 * i < want.length; i++) {
      CHECKS.due("package of entry " + i, x.entry(i, 0), want[3 * i]);
      CHECKS.due("way of entry " + i, x.entry(i, 1), want[3 * i + 1]);
      CHECKS.due("origin of entry " + i, x.entry(i, 4), want[3 * i + 2]);
    }
    CHECKS.due("no more entries", x.entry(want.length / 3, 0), NONE);
  }

  private static void reviewInRounds() {
    CHECKS.about("in rounds: in the order in which they come first (its USES in order)");
    LicenceRules x = Checks.with(0, 7);
    x.uses(0, 5, 0);
    x.uses(0, 2, 0);
    x.uses(0, 6, 0);
    x.uses(5, 4, 0);
    x.uses(5, 2, 0);
    x.uses(2, 4, 0);
    x.uses(2, 3, 1);
    x.uses(6, 3, 0);
    x.uses(4, 1, 0);
    x.uses(3, 1, 0);
    x.review(0, 0);
    dueWalk(x, 0, 0, NONE, 5, 0, 0, 2, 0, 0, 6, 0, 0, 4, 0, 1, 3, 1, 2, 3, 0, 3, 1, 0, 4, 1, 1, 5);
    x.review(0, 1);
    dueWalk(x, 0, 1, NONE, 5, 1, 0, 2, 1, 0, 6, 1, 0, 4, 1, 1, 3, 1, 2, 1, 1, 4);
  }

  private static void entryKinds() {
    CHECKS.about("An ENTRY is: 0 FREE, 1 with DUTIES, 2 BARRED, 3 BARRED but GRANTED");
    LicenceRules x = Checks.with(3, 4);
    Checks.express(x, 0, "a");
    Checks.express(x, 1, "b");
    Checks.express(x, 2, "c");
    Checks.express(x, 3, "c&b");
    x.rule(1, 0, DUTIES, 128);
    x.rule(2, 0, BARRED, 0);
    int[] without = {FREE, DUTIES, BARRED, BARRED};
    int[] granted = {FREE, DUTIES, 3, 3};
    for (int i = 0; i < 4; i++) {
      CHECKS.due("review of " + i, x.review(i, 0), i < 2 ? 0 : 1);
      CHECKS.due("kind of " + i, x.entry(0, 2), without[i]);
      CHECKS.due("duties of " + i, x.entry(0, 3), i == 1 ? 128 : 0);
      x.grant(i, 1);
      CHECKS.due("review of " + i + " with a grant", x.review(i, 0), 0);
      CHECKS.due("kind of " + i + " with a grant", x.entry(0, 2), granted[i]);
      CHECKS.due("duties of " + i + " with a grant", x.entry(0, 3), i == 1 ? 128 : 0);
    }
  }

  private static void entryGrantedBelowItsEnd() {
    CHECKS.about("the PACKAGE has a GRANT and the CLOCK is below its end");
    LicenceRules x = Checks.with(1, 2);
    Checks.express(x, 0, "a");
    x.rule(0, 0, BARRED, 0);
    CHECKS.due("another one's grant", x.grant(1, 100), true);
    CHECKS.due("no grant", x.review(0, 0), 1);
    CHECKS.due("a grant", x.grant(0, 3), true);
    for (int clock = 0; clock < 6; clock++) {
      CHECKS.due("at " + clock, x.review(0, 0), clock < 3 ? 0 : 1);
      CHECKS.due("kind at " + clock, x.entry(0, 2), clock < 3 ? 3 : BARRED);
      x.tick(1);
    }
    for (int end = 0; end < 9; end++) {
      x.grant(0, end);
      CHECKS.due("at 6 with the end " + end, x.review(0, 0), end > 6 ? 0 : 1);
    }
    LicenceRules y = Checks.with(1, 1);
    Checks.express(y, 0, "a");
    y.rule(0, 0, BARRED, 0);
    y.grant(0, 0);
    CHECKS.due("at 0 with the end 0", y.review(0, 0), 1);
  }

  private static void scoreRoundedDown() {
    CHECKS.about("SCORE: .. divided by how many one of both has, rounded down");
    for (int most = 1; most <= 64; most++) {
      LicenceRules x = new LicenceRules();
      x.licence(most == 64 ? -1L : (1L << most) - 1);
      for (int common = 0; common < most; common++) {
        CHECKS.due(common + " of " + most, x.score((1L << common) - 1, 0), 100 * common / most);
      }
    }
    LicenceRules x = new LicenceRules();
    x.licence(0b111L);
    CHECKS.due("two of seven", x.score(0b1111110L, 0), 28);
    CHECKS.due("what the file alone has counts, too", x.score(0b1111L, 0), 75);
  }

  private static void scoreZeroWithoutWords() {
    CHECKS.about("SCORE: 0 if none has any");
    LicenceRules x = new LicenceRules();
    x.licence(0L);
    x.licence(1L);
    CHECKS.due("none has any", x.score(0L, 0), 0);
    CHECKS.due("only the file", x.score(-1L, 0), 0);
    CHECKS.due("only the licence", x.score(0L, 1), 0);
    CHECKS.due("none is found", x.found(0L, 0), NONE);
    CHECKS.due("no second one is found", x.found(0L, 1), NONE);
  }

  private static void wordsBits0To63() {
    CHECKS.about("a set of WORDS (bits 0 .. 63)");
    LicenceRules x = new LicenceRules();
    x.licence(-1L);
    x.licence(Long.MIN_VALUE);
    x.licence(1L);
    x.licence(Long.MIN_VALUE | 1L);
    CHECKS.due("bit 63 of all", x.score(Long.MIN_VALUE, 0), 1);
    CHECKS.due("bit 63 alone", x.score(Long.MIN_VALUE, 1), 100);
    CHECKS.due("bit 0 isn't bit 63", x.score(1L, 1), 0);
    CHECKS.due("bit 0", x.score(1L, 2), 100);
    CHECKS.due("bit 32 isn't bit 0", x.score(1L << 32, 2), 0);
    CHECKS.due("one of two", x.score(Long.MIN_VALUE, 3), 50);
    CHECKS.due("all 64", x.score(-1L, 0), 100);
    CHECKS.due("63 of 64", x.score(Long.MAX_VALUE, 0), 98);
    CHECKS.due("none of bit 63", x.score(Long.MAX_VALUE, 1), 0);
  }

  private static void found60OrMore() {
    CHECKS.about("FOUND is the LICENCE with the greatest SCORE that is 60 or more");
    LicenceRules x = new LicenceRules();
    x.licence(0b11111L);
    CHECKS.due("60", x.score(0b111L, 0), 60);
    CHECKS.due("60 is found", x.found(0b111L, 0), 0);
    CHECKS.due("40 isn't", x.found(0b11L, 0), NONE);
    LicenceRules y = new LicenceRules();
    y.licence((1L << 62) - 1);
    CHECKS.due("59 (37 of 62)", y.score((1L << 37) - 1, 0), 59);
    CHECKS.due("59 isn't found", y.found((1L << 37) - 1, 0), NONE);
    CHECKS.due("61 (38 of 62) is", y.found((1L << 38) - 1, 0), 0);
    x.licence(0b1111L);
    x.licence(0b111L);
    x.licence(0b1111111L);
    CHECKS.due("100 in the middle", x.found(0b111L, 0), 2);
    CHECKS.due("85 before 71, 57 and 42", x.found(0b111111L, 0), 3);
    CHECKS.due("its second isn't the next greatest", x.found(0b111111L, 1), NONE);
  }

  private static void foundSecond() {
    CHECKS.about("a second one with the same SCORE is told, too");
    LicenceRules x = new LicenceRules();
    for (int i = 0; i < 16; i++) {
      x.licence(i == 3 || i == 9 || i == 15 ? 0b1111L : 0b11L);
    }
    CHECKS.due("the first of three", x.found(0b1111L, 0), 3);
    CHECKS.due("the second of three", x.found(0b1111L, 1), 9);
    CHECKS.due("the first of thirteen", x.found(0b11L, 0), 0);
    CHECKS.due("the second of thirteen", x.found(0b11L, 1), 1);
    CHECKS.due("the same score by other words", x.found(0b111L, 0), 3);
    LicenceRules y = new LicenceRules();
    y.licence(0b0111L);
    y.licence(0b1110L);
    CHECKS.due("75 and 75: the first", y.found(0b1111L, 0), 0);
    CHECKS.due("75 and 75: the second", y.found(0b1111L, 1), 1);
    y.licence(0b1111L);
    CHECKS.due("a greater one behind two like ones", y.found(0b1111L, 0), 2);
    CHECKS.due("has no second", y.found(0b1111L, 1), NONE);
    CHECKS.due("two like ones below 60: the first", y.found(0b10001L, 0), NONE);
    CHECKS.due("two like ones below 60: the second", y.found(0b10001L, 1), NONE);
    y.licence(0b1111L);
    CHECKS.due("now it has", y.found(0b1111L, 1), 3);
  }
}
