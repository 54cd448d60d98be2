import java.util.ArrayList;
import java.util.List;

/**
 * A call that is refused changes nothing: of two objects made by the same calls one gets the
 * refused call, and both answer alike to all that can be asked then.
 */
public final class RefusedCallsTest {
  private static final int NONE = LicenceRules.NONE;
  private static final int LEAST = Integer.MIN_VALUE;
  private static final int GREATEST = Integer.MAX_VALUE;
  private static final int MOST_CALLS = 512;
  /** Wrong for LICENCES, PACKAGES, EXCEPTIONS, WAYS and all other numbers alike. */
  private static final int[] WRONG = {LEAST, -256, -1, 16, 19, 48, 256, GREATEST};
  private static final String TEXT = "b^1 | (c & d^3 | e) & f | a";
  private static final Checks CHECKS = new Checks();

  private interface Call {
    long on(LicenceRules x);
  }

  /** The object with a count of the calls on it, since none are promised beyond 512. */
  private static final class Scene {
    final LicenceRules x = new LicenceRules();
    final boolean full;
    int calls = 0;

    Scene(boolean full) {
      this.full = full;
      int most = full ? 16 : 7;
      for (int i = 0; i < most; i++) {
        x.licence((15L << i) | 1L << 63);
        x.pack();
        calls += 2;
      }
      for (int i = 0; i < most; i++) {
        x.rule(i, i % 3, 1 + i % 2, 1 + i * 7);
        x.rule(i, (i + 1) % 3, 1, 1 + i * 11);
        calls += 2;
        express(i, (char) ('a' + i) + (i % 3 == 0 ? "" : "^" + i % 8));
      }
      express(0, "a|b&c|d");
      for (int i = 0; i < 6; i++) {
        x.lifts(i, i % 3, true);
        x.uses(0, 1 + i / 2, i % 3);
        x.uses(1 + i % 4, (i * 3) % 7, i / 4);
        calls += 3;
      }
      x.tick(5);
      x.grant(0, 6);
      x.grant(4, 5);
      x.grant(6, 9);
      x.review(0, 0);
      calls += 5;
      type(full ? TEXT + " ".repeat(60 - TEXT.length()) : TEXT);
    }

    void type(String text) {
      for (int i = 0; i < text.length(); i++) {
        x.type(text.charAt(i));
        calls++;
      }
    }

    void express(int pack, String text) {
      type(text);
      x.express(pack);
      calls++;
    }
  }

  private static final class Answers {
    final Scene scene;
    final LicenceRules x;
    final List<String> all = new ArrayList<>();

    Answers(Scene scene) {
      this.scene = scene;
      this.x = scene.x;
    }

    void add(String call, long answer) {
      scene.calls++;
      all.add(call + " = " + answer);
    }

    void askReview() {
      for (int i = 0; i < 22; i++) {
        for (int what = 0; what < 5; what++) {
          add("entry(" + i + ", " + what + ")", x.entry(i, what));
        }
      }
      for (int i = 0; i < 8; i++) {
        add("material(" + i + ")", x.material(i));
      }
      add("all()", x.all());
    }

    void askText() {
      add("express(1)", x.express(1));
      add("choices(1)", x.choices(1));
      for (int i = 0; i < 4; i++) {
        for (int k = 0; k < 3; k++) {
          add("pair(1, " + i + ", " + k + ")", x.pair(1, i, k));
        }
      }
    }

    void askPackages() {
      for (int p = 0; p < 17; p++) {
        add("choices(" + p + ")", x.choices(p));
        for (int way = 0; way < 3; way++) {
          add("best(" + p + ", " + way + ")", x.best(p, way));
          add("duties(" + p + ", " + way + ")", x.duties(p, way));
        }
      }
    }

    void askLicences() {
      add("tick(0)", x.tick(0));
      add("found", x.found(0b11110L | 1L << 63, 0));
      for (int i = 0; i < 17; i++) {
        add("score " + i, x.score(0b1111111L, i));
      }
      for (int k = 0; k < 4; k++) {
        for (int i = 0; i < 3; i++) {
          add("pair(0, " + i + ", " + k + ")", x.pair(0, i, k));
        }
      }
    }

    void askReviewOf(int pack, int way) {
      add("review(" + pack + ", " + way + ")", x.review(pack, way));
      askReview();
    }

    void askUses() {
      for (int p = 0; p < 7; p++) {
        for (int other = 0; other < 7; other++) {
          add("uses(" + p + ", " + other + ", 2)", number(x.uses(p, other, 2)));
        }
      }
    }

    void askMore() {
      add("licence", x.licence(3L));
      add("pack", x.pack());
      add("type", number(x.type('a')));
      add("score of a new one", x.score(3L, scene.full ? 15 : 7));
      add("choices of a new one", x.choices(scene.full ? 15 : 7));
    }
  }

  /** Each kind of question on objects of its own, so that no object gets too many calls. */
  private static List<String> ask(boolean full, int kind, Call refused) {
    Scene scene = new Scene(full);
    Answers answers = new Answers(scene);
    if (refused != null) {
      refused.on(scene.x);
    }
    scene.calls++;
    switch (kind) {
      case 0:
        answers.askReview();
        answers.askText();
        answers.askLicences();
        break;
      case 1:
        answers.askPackages();
        answers.askMore();
        break;
      default:
        answers.askReviewOf(0, 0);
        answers.askReviewOf(3, 1);
        answers.askUses();
        break;
    }
    CHECKS.due("calls on one object, kind " + kind, scene.calls <= MOST_CALLS, true);
    return answers.all;
  }

  private static void dueRefused(String name, long due, Call call) {
    dueRefusedIn(true, name, due, call);
    dueRefusedIn(false, name, due, call);
  }

  private static void dueRefusedIn(boolean full, String name, long due, Call call) {
    String where = full ? "full, " : "with room, ";
    CHECKS.due(where + name, call.on(new Scene(full).x), due);
    for (int kind = 0; kind < 3; kind++) {
      List<String> want = ask(full, kind, null);
      List<String> got = ask(full, kind, call);
      for (int i = 0; i < want.size(); i++) {
        boolean same = want.get(i).equals(got.get(i));
        CHECKS.due(where + name + ", then " + got.get(i) + " for " + want.get(i), same, true);
      }
    }
  }

  private static long number(boolean b) {
    return b ? 1 : 0;
  }

  public static void main(String[] args) {
    rules();
    texts();
    packages();
    usesAndGrants();
    clockAndReviews();
    questions();
    whatIsFull();
    CHECKS.end();
  }

  private static void rules() {
    CHECKS.about("3 and 4: false if there are none such, or DUTIES are none");
    for (int w : WRONG) {
      for (int kind = 0; kind < 3; kind++) {
        int k = kind;
        dueRefused("rule of " + w, 0, x -> number(x.rule(w, 1, k, 3)));
        dueRefused("rule in " + w, 0, x -> number(x.rule(1, w, k, 3)));
      }
      dueRefused("rule, kind " + w, 0, x -> number(x.rule(1, 1, w, 3)));
      dueRefused("lifts of " + w, 0, x -> number(x.lifts(w, 1, true)));
      dueRefused("lifts in " + w, 0, x -> number(x.lifts(1, w, true)));
      dueRefused("lifts of " + w + ", off", 0, x -> number(x.lifts(w, 1, false)));
      dueRefused("lifts in " + w + ", off", 0, x -> number(x.lifts(1, w, false)));
    }
    dueRefused("lifts of 8", 0, x -> number(x.lifts(8, 0, true)));
    dueRefused("rule in 3", 0, x -> number(x.rule(0, 3, 2, 0)));
    dueRefused("rule, kind 3", 0, x -> number(x.rule(0, 0, 3, 1)));
    dueRefused("no duties", 0, x -> number(x.rule(0, 0, 1, 0)));
    dueRefused("no duties among the lowest eight", 0, x -> number(x.rule(1, 1, 1, 256)));
    dueRefusedIn(false, "rule of 7", 0, x -> number(x.rule(7, 0, 2, 0)));
  }

  private static void texts() {
    CHECKS.about("5: false if its code isn't 32 .. 126, or there are 60");
    for (int c : new int[] {0, 31, 127, 255, 256 + 'a', 65535}) {
      dueRefused("type of " + c, 0, x -> number(x.type((char) c)));
    }
    dueRefusedIn(true, "type of a", 0, x -> number(x.type('a')));
    dueRefusedIn(true, "type of a blank", 0, x -> number(x.type(' ')));
  }

  private static void packages() {
    CHECKS.about("8 to 11: NONE (0 for duties) if there is none such");
    for (int w : WRONG) {
      dueRefused("choices of " + w, NONE, x -> x.choices(w));
      dueRefused("pair of " + w, NONE, x -> x.pair(w, 0, 0));
      dueRefused("pair of choice " + w, NONE, x -> x.pair(0, w, 0));
      dueRefused("pair " + w, NONE, x -> x.pair(0, 0, w));
      dueRefused("best of " + w, NONE, x -> x.best(w, 0));
      dueRefused("best in " + w, NONE, x -> x.best(0, w));
      dueRefused("duties of " + w, 0, x -> x.duties(w, 0));
      dueRefused("duties in " + w, 0, x -> x.duties(0, w));
    }
  }

  private static void usesAndGrants() {
    CHECKS.about("12 and 13: false if there are none such, already, full, or below 0");
    for (int w : WRONG) {
      dueRefused("uses of " + w, 0, x -> number(x.uses(w, 0, 0)));
      dueRefused("uses other " + w, 0, x -> number(x.uses(6, w, 0)));
      dueRefused("uses in " + w, 0, x -> number(x.uses(6, 5, w)));
      dueRefused("grant of " + w, 0, x -> number(x.grant(w, 9)));
    }
    dueRefused("uses in 3", 0, x -> number(x.uses(6, 5, 3)));
    dueRefused("uses already", 0, x -> number(x.uses(1, 0, 0)));
    dueRefused("uses a seventh", 0, x -> number(x.uses(0, 6, 0)));
    for (int end : new int[] {-1, -5, LEAST}) {
      dueRefused("grant with the end " + end, 0, x -> number(x.grant(0, end)));
    }
  }

  private static void clockAndReviews() {
    CHECKS.about("14 and 15: NONE if it isn't so, or there are none such");
    for (int n : new int[] {LEAST, -5, -1, 100001, GREATEST}) {
      dueRefused("tick " + n, NONE, x -> x.tick(n));
    }
    for (int w : WRONG) {
      dueRefused("review of " + w, NONE, x -> x.review(w, 1));
      dueRefused("review in " + w, NONE, x -> x.review(1, w));
    }
    dueRefused("review in 3", NONE, x -> x.review(1, 3));
    dueRefusedIn(false, "review of 7", NONE, x -> x.review(7, 1));
  }

  private static void questions() {
    CHECKS.about("16 to 20: NONE if there is none such");
    for (int w : WRONG) {
      // An ENTRY may have the number 16 or 19, since a PACKAGE comes in each WAY.
      int beyond = w < 0 ? w : Math.max(w, 48);
      dueRefused("entry " + beyond, NONE, x -> x.entry(beyond, 0));
      dueRefused("entry, what " + w, NONE, x -> x.entry(0, w));
      dueRefused("material " + w, NONE, x -> x.material(w));
      dueRefused("found, other " + w, NONE, x -> x.found(15L, w));
      dueRefused("score of " + w, NONE, x -> x.score(15L, w));
    }
  }

  private static void whatIsFull() {
    CHECKS.about("2 and 6: NONE if there are 16");
    dueRefusedIn(true, "licence", NONE, x -> x.licence(0b11110L));
    dueRefusedIn(true, "pack", NONE, LicenceRules::pack);
  }
}
