/** Counts answers that are not as due, prints each, and ends the test with exit code 1 if any. */
final class Checks {
  private int made = 0;
  private int wrong = 0;
  private int sentences = 0;
  private int madeBefore = 0;
  private String sentence = "";

  /** What is looked at from here on is about this sentence of the document. */
  void about(String words) {
    dueForSentence();
    sentence = "[" + words + "] ";
    sentences++;
    madeBefore = made;
  }

  private void dueForSentence() {
    if (sentences > 0 && made == madeBefore) {
      wrong++;
      System.out.println(sentence + "nothing was looked at");
    }
  }

  void due(String call, long got, long want) {
    made++;
    if (got != want) {
      wrong++;
      System.out.println(sentence + call + " answered " + got + ", due is " + want);
    }
  }

  void due(String call, boolean got, boolean want) {
    due(call, got ? 1L : 0L, want ? 1L : 0L);
  }

  /** The NORMAL FORM of a PACKAGE, written as form() does. */
  void dueForm(String call, LicenceRules x, int pack, String want) {
    String got = form(x, pack);
    due(call + " (form " + got + " for " + want + ")", got.equals(want), true);
  }

  int wrongSoFar() {
    return wrong;
  }

  void end() {
    dueForSentence();
    if (sentences > 0) {
      System.out.println(sentences + " sentences");
    }
    System.out.println(made + " answers looked at, " + wrong + " not as due");
    if (wrong != 0 || made == 0) {
      System.exit(1);
    }
  }

  /** An object with so many LICENCES (without WORDS) and PACKAGES. */
  static LicenceRules with(int licences, int packs) {
    LicenceRules x = new LicenceRules();
    for (int i = 0; i < licences; i++) {
      x.licence(0L);
    }
    for (int i = 0; i < packs; i++) {
      x.pack();
    }
    return x;
  }

  static int express(LicenceRules x, int pack, String text) {
    for (int i = 0; i < text.length(); i++) {
      x.type(text.charAt(i));
    }
    return x.express(pack);
  }

  /** All CHOICES of a PACKAGE as CODES: "0 9|18" has two CHOICES. */
  static String form(LicenceRules x, int pack) {
    StringBuilder all = new StringBuilder();
    for (int i = 0; i < x.choices(pack); i++) {
      all.append(i == 0 ? "" : "|");
      for (int k = 0; x.pair(pack, i, k) != LicenceRules.NONE; k++) {
        all.append(k == 0 ? "" : " ").append(x.pair(pack, i, k));
      }
    }
    return all.toString();
  }
}
