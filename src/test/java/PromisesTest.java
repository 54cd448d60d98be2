/** Each promise of the document by its number: ordinary inputs, edges and wrong inputs. */
public final class PromisesTest {
  private static final int NONE = LicenceRules.NONE;
  private static final int LEAST = Integer.MIN_VALUE;
  private static final int GREATEST = Integer.MAX_VALUE;
  private static final int[] NO_WAYS = {-1, 3, LEAST, GREATEST};
  private static final Checks CHECKS = new Checks();

  public static void main(String[] args) {
    promise1NewObject();
    promise2Licence();
    promise3Rule();
    promise4Lifts();
    promise5Type();
    promise6Pack();
    promise7Ill();
    promise7Brackets();
    promise7Blanks();
    promise7NormalForm();
    promise7TooMany();
    promise7WhatStays();
    promise8Choices();
    promise9Pair();
    promise10Best();
    promise11Duties();
    promise12Uses();
    promise13Grant();
    promise14Tick();
    promise15Review();
    promise16Entry();
    promise16AsItWas();
    promise17All();
    promise18Material();
    promise19Found();
    promise20Score();
    CHECKS.end();
  }

  private static void promise1NewObject() {
    LicenceRules x = new LicenceRules();
    CHECKS.due("1 NONE", NONE, -1);
    CHECKS.due("1 no package", x.choices(0), NONE);
    CHECKS.due("1 no licence", x.score(1L, 0), NONE);
    CHECKS.due("1 nothing found", x.found(1L, 0), NONE);
    CHECKS.due("1 clock", x.tick(0), 0);
    CHECKS.due("1 no entry", x.entry(0, 0), NONE);
    CHECKS.due("1 no duties", x.all(), 0);
    CHECKS.due("1 no material", x.material(0), NONE);
    CHECKS.due("1 first licence", x.licence(1L), 0);
    CHECKS.due("1 first package", x.pack(), 0);
    LicenceRules y = new LicenceRules();
    CHECKS.due("1 objects share nothing", y.choices(0), NONE);
  }

  private static void promise2Licence() {
    LicenceRules x = new LicenceRules();
    for (int i = 0; i < 16; i++) {
      CHECKS.due("2 licence " + i, x.licence(1L << i), i);
    }
    CHECKS.due("2 seventeenth", x.licence(7L), NONE);
    CHECKS.due("2 words of the last", x.score(1L << 15, 15), 100);
    CHECKS.due("2 seventeenth isn't there", x.score(7L, 16), NONE);
  }

  private static void promise3Rule() {
    LicenceRules x = Checks.with(2, 1);
    CHECKS.due("3 a", Checks.express(x, 0, "a"), 1);
    CHECKS.due("3 free at first", x.duties(0, 0), 0);
    CHECKS.due("3 best at first", x.best(0, 0), 0);
    CHECKS.due("3 duties", x.rule(0, 0, 1, 0x5FF), true);
    CHECKS.due("3 lowest eight count", x.duties(0, 0), 255);
    CHECKS.due("3 other way is free", x.duties(0, 1), 0);
    CHECKS.due("3 no duties", x.rule(0, 0, 1, 0), false);
    CHECKS.due("3 no duties among the lowest eight", x.rule(0, 0, 1, 256), false);
    CHECKS.due("3 stays after false", x.duties(0, 0), 255);
    CHECKS.due("3 negative duties", x.rule(0, 0, 1, -128), true);
    CHECKS.due("3 their lowest eight", x.duties(0, 0), 128);
    CHECKS.due("3 barred", x.rule(0, 2, 2, 0), true);
    CHECKS.due("3 barred in its way", x.best(0, 2), NONE);
    CHECKS.due("3 free again", x.rule(0, 2, 0, 255), true);
    CHECKS.due("3 free has no duties", x.duties(0, 2), 0);
    CHECKS.due("3 free is a choice", x.best(0, 2), 0);
    for (int wrong : new int[] {-1, 2, 16, LEAST, GREATEST}) {
      CHECKS.due("3 licence " + wrong, x.rule(wrong, 0, 0, 1), false);
    }
    for (int way : NO_WAYS) {
      CHECKS.due("3 way " + way, x.rule(0, way, 0, 1), false);
    }
    for (int kind : new int[] {-1, 3, LEAST, GREATEST}) {
      CHECKS.due("3 kind " + kind, x.rule(0, 0, kind, 1), false);
    }
    CHECKS.due("3 stays after wrong calls", x.duties(0, 0), 128);
  }

  private static void promise4Lifts() {
    LicenceRules x = Checks.with(2, 2);
    CHECKS.due("4 a^0&b^7", Checks.express(x, 0, "a^0&b^7"), 1);
    CHECKS.due("4 a", Checks.express(x, 1, "a"), 1);
    x.rule(0, 1, 2, 0);
    x.rule(1, 1, 1, 4);
    CHECKS.due("4 doesn't at first", x.best(0, 1), NONE);
    CHECKS.due("4 lifts 0", x.lifts(0, 1, true), true);
    CHECKS.due("4 barred is lifted", x.best(0, 1), 0);
    CHECKS.due("4 7 isn't yet", x.duties(0, 1), 4);
    CHECKS.due("4 lifts 7 in another way", x.lifts(7, 2, true), true);
    CHECKS.due("4 not in this one", x.duties(0, 1), 4);
    CHECKS.due("4 lifts 7", x.lifts(7, 1, true), true);
    CHECKS.due("4 duties are lifted", x.duties(0, 1), 0);
    CHECKS.due("4 without exception", x.best(1, 1), NONE);
    CHECKS.due("4 off", x.lifts(0, 1, false), true);
    CHECKS.due("4 barred again", x.best(0, 1), NONE);
    CHECKS.due("4 off again", x.lifts(0, 1, false), true);
    for (int wrong : new int[] {-1, 8, LEAST, GREATEST}) {
      CHECKS.due("4 exception " + wrong, x.lifts(wrong, 1, true), false);
    }
    for (int way : NO_WAYS) {
      CHECKS.due("4 way " + way, x.lifts(0, way, true), false);
    }
    CHECKS.due("4 wrong calls change nothing", x.best(0, 1), NONE);
  }

  private static void promise5Type() {
    LicenceRules x = Checks.with(1, 1);
    for (int c : new int[] {0, 9, 10, 31, 127, 128, 255, 256 + 'a', 65535}) {
      CHECKS.due("5 code " + c, x.type((char) c), false);
    }
    CHECKS.due("5 32", x.type((char) 32), true);
    CHECKS.due("5 126", x.type((char) 126), true);
    CHECKS.due("5 the 126 is ill", x.express(0), -2);
    for (int i = 0; i < 59; i++) {
      CHECKS.due("5 blank " + i, x.type(' '), true);
    }
    CHECKS.due("5 sixtieth", x.type('a'), true);
    CHECKS.due("5 sixty-first", x.type('~'), false);
    CHECKS.due("5 sixty", x.express(0), 1);
    CHECKS.due("5 room again", x.type('a'), true);
    CHECKS.due("5 the new text", x.express(0), 1);
  }

  private static void promise6Pack() {
    LicenceRules x = new LicenceRules();
    for (int i = 0; i < 16; i++) {
      CHECKS.due("6 not yet " + i, x.choices(i), NONE);
      CHECKS.due("6 pack " + i, x.pack(), i);
      CHECKS.due("6 without expression " + i, x.choices(i), 0);
    }
    CHECKS.due("6 seventeenth", x.pack(), NONE);
    CHECKS.due("6 seventeenth isn't there", x.choices(16), NONE);
  }

  private static void dueIll(int licences, String text, int place) {
    LicenceRules x = Checks.with(licences, 1);
    CHECKS.due("7 '" + text + "'", Checks.express(x, 0, text), -1 - place);
  }

  private static void promise7Ill() {
    dueIll(2, "", 0);
    dueIll(2, "   ", 3);
    dueIll(2, "c", 0);
    dueIll(2, "a|c", 2);
    dueIll(0, "a", 0);
    dueIll(2, "A", 0);
    dueIll(2, "`", 0);
    dueIll(16, "q", 0);
    dueIll(2, "ab", 1);
    dueIll(2, "a b", 2);
    dueIll(2, "a(b)", 1);
    dueIll(2, "(a)b", 3);
    dueIll(2, "(a)(b)", 3);
    dueIll(2, "|a", 0);
    dueIll(2, "a||b", 2);
    dueIll(2, "a|&b", 2);
    dueIll(2, "a|", 2);
    dueIll(2, "a& ", 3);
    dueIll(2, "a^", 2);
    dueIll(2, "a^ ", 3);
    dueIll(2, "a^8", 2);
    dueIll(2, "a^/", 2);
    dueIll(2, "a^a", 2);
    dueIll(2, "a^00", 3);
    dueIll(2, "a^1^2", 3);
    dueIll(2, "^1", 0);
    dueIll(2, "(a)^1", 3);
    dueIll(2, "a1", 1);
    dueIll(2, "a&b x c", 4);
  }

  private static void promise7Brackets() {
    dueIll(2, "(", 1);
    dueIll(2, "()", 1);
    dueIll(2, ")", 0);
    dueIll(2, "a)", 1);
    dueIll(2, "(a))", 3);
    dueIll(2, "(a|)", 3);
    dueIll(2, "(a", 2);
    dueIll(2, "((a)", 4);
    dueIll(2, "((((((((((a", 11);
    dueIll(2, "(((((((((((a", 10);
    dueIll(2, "a&((((((((((b|(a))))))))))))", 14);
    LicenceRules x = Checks.with(2, 1);
    CHECKS.due("7 ten brackets", Checks.express(x, 0, "((((((((((a))))))))))"), 1);
    CHECKS.due("7 ten, closed and opened", Checks.express(x, 0, "((((((((((a)&(b))))))))))"), 1);
    CHECKS.due("7 brackets one behind another", Checks.express(x, 0,
        "(a)|(a)|(a)|(a)|(a)|(a)|(a)|(a)|(a)|(a)|(a)|(a)|(b)"), 2);
  }

  private static void promise7Blanks() {
    LicenceRules x = Checks.with(3, 1);
    CHECKS.due("7 blanks", Checks.express(x, 0, "  a ^ 2  & ( b|  c ) "), 2);
    CHECKS.due("7 blanks' form", "3 9|3 18".equals(Checks.form(x, 0)), true);
    dueIll(2, "  a  ^  8", 8);
    dueIll(2, "a\"", 1);
  }

  private static void dueForm(String text, String want) {
    LicenceRules x = Checks.with(16, 1);
    int count = Checks.express(x, 0, text);
    CHECKS.due("7 count of '" + text + "'", count, want.split("\\|").length);
    String got = Checks.form(x, 0);
    CHECKS.due("7 form of '" + text + "' (" + got + " for " + want + ")", got.equals(want), true);
  }

  private static void promise7NormalForm() {
    dueForm("a", "0");
    dueForm("a^0", "1");
    dueForm("a^7", "8");
    dueForm("p^7", "143");
    dueForm("b|a", "9|0");
    dueForm("b&a", "0 9");
    dueForm("a&a", "0");
    dueForm("a|a", "0");
    dueForm("a&a^0", "0 1");
    dueForm("a|a^0", "0|1");
    dueForm("a|b&c", "0|9 18");
    dueForm("a&b|c", "0 9|18");
    dueForm("(a|b)&c", "0 18|9 18");
    dueForm("a&(b|c)", "0 9|0 18");
    dueForm("(a|b)&(c|d)", "0 18|0 27|9 18|9 27");
    dueForm("a&b|a", "0");
    dueForm("a|a&b", "0");
    dueForm("a&b|c|a", "18|0");
    dueForm("a&b|b&a", "0 9");
    dueForm("(a|b)&(a|b)", "0|9");
    dueForm("(a|b)&(b|c)", "0 18|9");
    dueForm("(a|b)&(b|c)&(c|a)", "0 18|9 18|0 9");
    dueForm("h&(o^5|p)", "63 132|63 135");
    dueForm("(a&b|c)&(d|e&f)", "0 9 27|0 9 36 45|18 27|18 36 45");
    dueForm("a&b&c|d&e&f|a&c|e&d", "0 18|27 36");
  }

  private static void promise7TooMany() {
    LicenceRules x = Checks.with(16, 1);
    CHECKS.due("7 twenty", Checks.express(x, 0, "(a|b|c|d)&(e|f|g|h|i)"), 20);
    CHECKS.due("7 last of twenty", x.pair(0, 19, 1), 72);
    CHECKS.due("7 twenty-one", Checks.express(x, 0, "(a|b|c)&(d|e|f|g|h|i|j)"), -100);
    CHECKS.due("7 the one before stays", x.choices(0), 20);
    CHECKS.due("7 at |", Checks.express(x, 0, "(a|b|c|d)&(e|f|g|h|i)|j"), -100);
    CHECKS.due("7 one | that leaves twenty", Checks.express(x, 0, "(a|b|c|d)&(e|f|g|h|i)|i&d"), 20);
    CHECKS.due("7 fewer later", Checks.express(x, 0, "(a|b|c)&(d|e|f|g|h|i|j)|a|b|c"), -100);
    CHECKS.due("7 fewer by brackets", Checks.express(x, 0, "a|b|c|(a|b|c)&(d|e|f|g|h|i|j)"), -100);
    CHECKS.due("7 left out before it is counted",
        Checks.express(x, 0, "(a|b|c|d|e|f|g)&(a|b|c|d|e|f|g)"), 7);
    CHECKS.due("7 four hundred", Checks.express(x, 0,
        "(a|b|c|d)&(e|f|g|h|i)&((j|k|l|m)&(n|o|p|a^1|b^1))"), -100);
    CHECKS.due("7 ill counts first", Checks.express(x, 0, "(a|b|c)&(d|e|f|g|h|i|j)|"), -25);
    CHECKS.due("7 ill counts first, too", Checks.express(x, 0, "(a|b|c)&(d|e|f|g|h|i|j)|k l"), -27);
    CHECKS.due("7 not too many any more", Checks.express(x, 0, "a"), 1);
  }

  private static void promise7WhatStays() {
    LicenceRules x = Checks.with(2, 1);
    CHECKS.due("7 a|b", Checks.express(x, 0, "a|b"), 2);
    CHECKS.due("7 ill", Checks.express(x, 0, "b|"), -3);
    CHECKS.due("7 stays", "0|9".equals(Checks.form(x, 0)), true);
    CHECKS.due("7 the text is empty", x.express(0), -1);
    for (int wrong : new int[] {-1, 1, 16, LEAST, GREATEST}) {
      CHECKS.due("7 package " + wrong, Checks.express(x, wrong, "b"), -200);
    }
    CHECKS.due("7 no package and ill", Checks.express(x, 1, "&"), -200);
    CHECKS.due("7 the text is empty, too", x.express(0), -1);
    CHECKS.due("7 stays still", "0|9".equals(Checks.form(x, 0)), true);
    CHECKS.due("7 in place of it", Checks.express(x, 0, "b"), 1);
    CHECKS.due("7 the new one", "9".equals(Checks.form(x, 0)), true);
  }

  private static void promise8Choices() {
    LicenceRules x = Checks.with(3, 2);
    CHECKS.due("8 without one", x.choices(0), 0);
    Checks.express(x, 0, "a|b|c");
    CHECKS.due("8 three", x.choices(0), 3);
    CHECKS.due("8 of the other", x.choices(1), 0);
    for (int wrong : new int[] {-1, 2, 16, LEAST, GREATEST}) {
      CHECKS.due("8 package " + wrong, x.choices(wrong), NONE);
    }
  }

  private static void promise9Pair() {
    LicenceRules x = Checks.with(16, 2);
    Checks.express(x, 0, "p&a^3&h^1&h|b");
    CHECKS.due("9 first", x.pair(0, 0, 0), 4);
    CHECKS.due("9 second", x.pair(0, 0, 1), 63);
    CHECKS.due("9 third", x.pair(0, 0, 2), 65);
    CHECKS.due("9 fourth", x.pair(0, 0, 3), 135);
    CHECKS.due("9 no fifth", x.pair(0, 0, 4), NONE);
    CHECKS.due("9 second choice", x.pair(0, 1, 0), 9);
    for (int wrong : new int[] {-1, 144, LEAST, GREATEST}) {
      CHECKS.due("9 pair " + wrong, x.pair(0, 0, wrong), NONE);
    }
    for (int wrong : new int[] {-1, 2, 20, LEAST, GREATEST}) {
      CHECKS.due("9 choice " + wrong, x.pair(0, wrong, 0), NONE);
    }
    for (int wrong : new int[] {-1, 1, 2, 16, LEAST, GREATEST}) {
      CHECKS.due("9 package " + wrong, x.pair(wrong, 0, 0), NONE);
    }
  }

  private static void promise10Best() {
    LicenceRules x = Checks.with(5, 2);
    CHECKS.due("10 without one", x.best(0, 0), NONE);
    Checks.express(x, 0, "a&b|c&d|e");
    CHECKS.due("10 all free: the fewest pairs", x.best(0, 0), 2);
    x.rule(4, 0, 1, 128);
    CHECKS.due("10 the first one", x.best(0, 0), 0);
    x.rule(0, 0, 2, 0);
    CHECKS.due("10 the first is barred", x.best(0, 0), 1);
    x.rule(2, 0, 1, 3);
    CHECKS.due("10 fewer duties by their number, not their bits", x.best(0, 0), 2);
    x.rule(2, 0, 1, 1);
    CHECKS.due("10 as many duties: fewer pairs", x.best(0, 0), 2);
    x.rule(3, 0, 1, 1);
    x.rule(4, 0, 1, 6);
    CHECKS.due("10 the same duty counts once", x.best(0, 0), 1);
    x.rule(2, 0, 2, 0);
    x.rule(4, 0, 2, 0);
    CHECKS.due("10 all are barred", x.best(0, 0), NONE);
    CHECKS.due("10 not in another way", x.best(0, 2), 2);
    for (int way : NO_WAYS) {
      CHECKS.due("10 way " + way, x.best(0, way), NONE);
    }
    for (int wrong : new int[] {-1, 1, 2, 16, LEAST, GREATEST}) {
      CHECKS.due("10 package " + wrong, x.best(wrong, 2), NONE);
    }
    Checks.express(x, 1, "a&b&c&d&e|e^1&d^1&c^1&b^1");
    x.rule(1, 1, 1, 1);
    CHECKS.due("10 fewer pairs of as many duties", x.best(1, 1), 1);
    x.lifts(1, 1, true);
    CHECKS.due("10 lifted", x.best(1, 1), 1);
    x.rule(1, 1, 0, 0);
    x.lifts(1, 1, false);
    x.rule(4, 1, 1, 1);
    x.rule(0, 1, 1, 2);
    CHECKS.due("10 fewer duties", x.best(1, 1), 1);
  }

  private static void promise11Duties() {
    LicenceRules x = Checks.with(3, 2);
    CHECKS.due("11 without one", x.duties(0, 0), 0);
    Checks.express(x, 0, "a&b|c");
    x.rule(0, 1, 1, 0x81);
    x.rule(1, 1, 1, 0x03);
    x.rule(2, 1, 2, 0);
    CHECKS.due("11 joined", x.duties(0, 1), 0x83);
    x.rule(2, 1, 1, 0x40);
    CHECKS.due("11 of the best", x.duties(0, 1), 0x40);
    x.rule(2, 1, 2, 0);
    x.rule(1, 1, 2, 0);
    CHECKS.due("11 all barred", x.duties(0, 1), 0);
    x.rule(0, 0, 1, 1);
    x.rule(2, 0, 1, 1);
    for (int way : NO_WAYS) {
      CHECKS.due("11 way " + way, x.duties(0, way), 0);
    }
    for (int wrong : new int[] {-1, 1, 2, 16, LEAST, GREATEST}) {
      CHECKS.due("11 package " + wrong, x.duties(wrong, 0), 0);
    }
  }

  private static void promise12Uses() {
    LicenceRules x = Checks.with(0, 3);
    CHECKS.due("12 itself", x.uses(0, 0, 0), true);
    CHECKS.due("12 another one", x.uses(0, 1, 0), true);
    CHECKS.due("12 in another way", x.uses(0, 1, 1), true);
    CHECKS.due("12 already", x.uses(0, 1, 1), false);
    CHECKS.due("12 a ring", x.uses(1, 0, 2), true);
    for (int way : NO_WAYS) {
      CHECKS.due("12 way " + way, x.uses(0, 2, way), false);
    }
    for (int wrong : new int[] {-1, 3, 16, LEAST, GREATEST}) {
      CHECKS.due("12 package " + wrong, x.uses(wrong, 0, 0), false);
      CHECKS.due("12 other " + wrong, x.uses(0, wrong, 0), false);
    }
    CHECKS.due("12 fourth", x.uses(0, 2, 0), true);
    CHECKS.due("12 fifth", x.uses(0, 2, 1), true);
    CHECKS.due("12 sixth", x.uses(0, 2, 2), true);
    CHECKS.due("12 seventh", x.uses(0, 1, 2), false);
    CHECKS.due("12 another package has room", x.uses(1, 1, 2), true);
  }

  private static void promise13Grant() {
    LicenceRules x = Checks.with(1, 2);
    Checks.express(x, 0, "a");
    x.rule(0, 0, 2, 0);
    CHECKS.due("13 without", x.review(0, 0), 1);
    CHECKS.due("13 end 0", x.grant(0, 0), true);
    CHECKS.due("13 clock isn't below 0", x.review(0, 0), 1);
    CHECKS.due("13 end 1", x.grant(0, 1), true);
    CHECKS.due("13 clock is below 1", x.review(0, 0), 0);
    CHECKS.due("13 granted", x.entry(0, 2), 3);
    x.tick(1);
    CHECKS.due("13 it has ended", x.review(0, 0), 1);
    CHECKS.due("13 the greatest end", x.grant(0, GREATEST), true);
    CHECKS.due("13 in place of the one before", x.review(0, 0), 0);
    CHECKS.due("13 below 0", x.grant(0, -1), false);
    CHECKS.due("13 far below 0", x.grant(0, LEAST), false);
    CHECKS.due("13 it stays", x.review(0, 0), 0);
    CHECKS.due("13 an earlier one in its place", x.grant(0, 1), true);
    CHECKS.due("13 that one has ended", x.review(0, 0), 1);
    for (int wrong : new int[] {-1, 2, 16, LEAST, GREATEST}) {
      CHECKS.due("13 package " + wrong, x.grant(wrong, 5), false);
    }
    x.grant(1, 100);
    CHECKS.due("13 a free one with a grant", x.review(1, 0), 0);
    CHECKS.due("13 is free", x.entry(0, 2), 0);
  }

  private static void promise14Tick() {
    LicenceRules x = new LicenceRules();
    CHECKS.due("14 0", x.tick(0), 0);
    CHECKS.due("14 5", x.tick(5), 5);
    CHECKS.due("14 100000", x.tick(100000), 100005);
    for (int wrong : new int[] {-1, 100001, LEAST, GREATEST}) {
      CHECKS.due("14 n " + wrong, x.tick(wrong), NONE);
    }
    CHECKS.due("14 it stays", x.tick(0), 100005);
    // More calls than the document promises for, but no fewer reach the end.
    for (int i = 0; i < 9998; i++) {
      x.tick(100000);
    }
    CHECKS.due("14 above the end", x.tick(99996), NONE);
    CHECKS.due("14 to the end", x.tick(99995), 1000000000);
    CHECKS.due("14 above it", x.tick(1), NONE);
    CHECKS.due("14 at it", x.tick(0), 1000000000);
  }

  private static void promise15Review() {
    LicenceRules x = Checks.with(2, 4);
    Checks.express(x, 0, "a");
    Checks.express(x, 1, "a");
    Checks.express(x, 2, "b");
    x.rule(0, 1, 2, 0);
    x.rule(0, 2, 2, 0);
    x.uses(0, 1, 1);
    x.uses(1, 2, 0);
    x.uses(2, 0, 2);
    CHECKS.due("15 not barred itself", x.review(3, 1), 0);
    CHECKS.due("15 a ring", x.review(0, 0), 3);
    x.grant(1, 10);
    CHECKS.due("15 granted ones don't count", x.review(0, 0), 1);
    CHECKS.due("15 in another way", x.review(0, 2), 1);
    x.lifts(1, 2, true);
    Checks.express(x, 0, "a^1");
    CHECKS.due("15 lifted", x.review(0, 2), 0);
    for (int way : NO_WAYS) {
      CHECKS.due("15 way " + way, x.review(0, way), NONE);
    }
    for (int wrong : new int[] {-1, 4, 16, LEAST, GREATEST}) {
      CHECKS.due("15 package " + wrong, x.review(wrong, 0), NONE);
    }
    CHECKS.due("15 the latest stays", x.entry(0, 1), 2);
  }

  private static void dueEntry(LicenceRules x, int i, int... want) {
    for (int what = 0; what < want.length; what++) {
      CHECKS.due("16 entry " + i + ", " + what, x.entry(i, what), want[what]);
    }
  }

  private static void promise16Entry() {
    LicenceRules x = Checks.with(2, 16);
    Checks.express(x, 5, "a");
    Checks.express(x, 7, "b");
    x.rule(0, 1, 1, 9);
    x.rule(1, 2, 2, 0);
    x.uses(3, 7, 0);
    x.uses(3, 5, 1);
    x.uses(3, 3, 0);
    x.uses(7, 5, 2);
    x.uses(7, 5, 1);
    x.uses(5, 7, 2);
    CHECKS.due("16 review", x.review(3, 0), 1);
    dueEntry(x, 0, 3, 0, 0, 0, NONE);
    dueEntry(x, 1, 7, 0, 0, 0, 0);
    dueEntry(x, 2, 5, 1, 1, 9, 0);
    dueEntry(x, 3, 5, 2, 0, 0, 1);
    dueEntry(x, 4, 7, 2, 2, 0, 2);
    for (int wrong : new int[] {-1, 5, 48, LEAST, GREATEST}) {
      CHECKS.due("16 no entry " + wrong, x.entry(wrong, 0), NONE);
    }
    for (int wrong : new int[] {-1, 5, LEAST, GREATEST}) {
      CHECKS.due("16 no what " + wrong, x.entry(0, wrong), NONE);
    }
    LicenceRules y = Checks.with(0, 16);
    for (int i = 0; i < 16; i++) {
      for (int way = 0; way < 3; way++) {
        y.uses(i, (i + 1) % 16, way);
      }
    }
    CHECKS.due("16 the greatest review", y.review(0, 0), 0);
    CHECKS.due("16 has 48 entries", y.entry(47, 0) != NONE, true);
    CHECKS.due("16 no more", y.entry(48, 0), NONE);
  }

  private static void promise16AsItWas() {
    LicenceRules x = Checks.with(1, 2);
    Checks.express(x, 0, "a");
    x.rule(0, 0, 1, 5);
    x.review(0, 0);
    x.rule(0, 0, 2, 0);
    x.uses(0, 1, 0);
    dueEntry(x, 0, 0, 0, 1, 5, NONE);
    CHECKS.due("16 no new entry", x.entry(1, 0), NONE);
    CHECKS.due("16 all as it was", x.all(), 5);
    CHECKS.due("16 no new material", x.material(1), NONE);
    x.grant(0, 1);
    x.review(0, 0);
    x.tick(1);
    dueEntry(x, 0, 0, 0, 3, 0, NONE);
    CHECKS.due("16 two entries now", x.entry(1, 0), 1);
  }

  private static void promise17All() {
    LicenceRules x = Checks.with(3, 3);
    CHECKS.due("17 before", x.all(), 0);
    Checks.express(x, 0, "a");
    Checks.express(x, 1, "b");
    Checks.express(x, 2, "c&b");
    x.rule(0, 0, 1, 3);
    x.rule(1, 1, 1, 6);
    x.rule(2, 1, 2, 0);
    x.uses(0, 1, 1);
    x.uses(0, 2, 1);
    x.review(0, 0);
    CHECKS.due("17 joined, none of barred ones", x.all(), 7);
    x.review(2, 1);
    CHECKS.due("17 of the latest", x.all(), 0);
    x.review(1, 1);
    x.review(9, 0);
    CHECKS.due("17 a review that is none changes nothing", x.all(), 6);
  }

  private static void promise18Material() {
    LicenceRules x = Checks.with(0, 5);
    CHECKS.due("18 before", x.material(0), NONE);
    x.uses(4, 2, 1);
    x.uses(4, 0, 2);
    x.uses(2, 4, 2);
    x.uses(0, 3, 0);
    x.review(4, 0);
    CHECKS.due("18 first", x.material(0), 4);
    CHECKS.due("18 second", x.material(1), 2);
    CHECKS.due("18 third", x.material(2), 0);
    CHECKS.due("18 fourth: not the first one again", x.material(3), 3);
    for (int wrong : new int[] {-1, 4, 16, LEAST, GREATEST}) {
      CHECKS.due("18 none " + wrong, x.material(wrong), NONE);
    }
  }

  private static void promise19Found() {
    LicenceRules x = new LicenceRules();
    CHECKS.due("19 no licences", x.found(0L, 0), NONE);
    x.licence(0b11111L);
    x.licence(0b1111L);
    x.licence(0b1111L);
    x.licence(0b1111L);
    x.licence(-1L);
    x.licence(0L);
    CHECKS.due("19 greatest", x.found(0b11111L, 0), 0);
    CHECKS.due("19 no second", x.found(0b11111L, 1), NONE);
    CHECKS.due("19 a later one is greater", x.found(0b1111L, 0), 1);
    CHECKS.due("19 its second", x.found(0b1111L, 1), 2);
    CHECKS.due("19 sixty", x.found(0b11100L, 0), 0);
    CHECKS.due("19 fifty", x.found(0b110000L | 0b1001L, 0), NONE);
    CHECKS.due("19 all words", x.found(-1L, 0), 4);
    CHECKS.due("19 no words", x.found(0L, 0), NONE);
    CHECKS.due("19 no words, second", x.found(0L, 1), NONE);
    for (int other : new int[] {-1, 2, LEAST, GREATEST}) {
      CHECKS.due("19 other " + other, x.found(0b1111L, other), NONE);
    }
    promise19Rounding();
  }

  private static void promise19Rounding() {
    LicenceRules x = new LicenceRules();
    x.licence((1L << 42) - 1);
    long most = (1L << 25) - 1;
    CHECKS.due("19 25 of 42 are 59", x.score(most, 0), 59);
    CHECKS.due("19 59 is too few", x.found(most, 0), NONE);
    LicenceRules y = new LicenceRules();
    y.licence((1L << 62) - 1);
    y.licence((1L << 30) - 1 | 15L << 41);
    long file = (1L << 41) - 1;
    CHECKS.due("19 41 of 62 are 66", y.score(file, 0), 66);
    CHECKS.due("19 30 of 45 are 66", y.score(file, 1), 66);
    CHECKS.due("19 the lesser number of like ones", y.found(file, 0), 0);
    CHECKS.due("19 the second of like ones", y.found(file, 1), 1);
  }

  private static void promise20Score() {
    LicenceRules x = new LicenceRules();
    x.licence(0b111L);
    x.licence(0L);
    x.licence(-1L);
    CHECKS.due("20 all", x.score(0b111L, 0), 100);
    CHECKS.due("20 none in common", x.score(0b111000L, 0), 0);
    CHECKS.due("20 rounded down", x.score(0b11L, 0), 66);
    CHECKS.due("20 of five", x.score(0b11110L, 0), 40);
    CHECKS.due("20 no words at all", x.score(0L, 1), 0);
    CHECKS.due("20 only the file's", x.score(1L, 1), 0);
    CHECKS.due("20 all 64", x.score(-1L, 2), 100);
    CHECKS.due("20 the highest bit", x.score(Long.MIN_VALUE, 2), 1);
    for (int wrong : new int[] {-1, 3, 16, LEAST, GREATEST}) {
      CHECKS.due("20 licence " + wrong, x.score(1L, wrong), NONE);
    }
  }
}
