import java.lang.reflect.Constructor;
import java.lang.reflect.Field;
import java.lang.reflect.Method;
import java.lang.reflect.Modifier;
import java.nio.file.Files;
import java.nio.file.Path;
import java.util.Set;
import java.util.TreeSet;
import java.util.regex.Matcher;
import java.util.regex.Pattern;

/** The class's face (rule 1 of LANGUAGE.md), and words that the other rules leave out. */
public final class LanguageTest {
  private static final Checks CHECKS = new Checks();

  private static final String[] FACE = {
    "int licence(long)", "boolean rule(int,int,int,int)", "boolean lifts(int,int,boolean)",
    "boolean type(char)", "int pack()", "int express(int)", "int choices(int)",
    "int pair(int,int,int)", "int best(int,int)", "int duties(int,int)", "boolean uses(int,int,int)",
    "boolean grant(int,int)", "int tick(int)", "int review(int,int)", "int entry(int,int)",
    "int all()", "int material(int)", "int found(long,int)", "int score(long,int)"
  };

  private static final String[] LEFT_OUT = {
    "\\bthrow\\b", "\\btry\\b", "\\bcatch\\b", "\\bsynchronized\\b", "\\bassert\\b", "->", "::",
    "\\bpackage\\b", "\\bimport\\b", "Exact\\(", "\\bstatic \\{", "\\bprotected\\b",
    "\\bSystem\\.(?!arraycopy)", "\\bString\\.format", "\\.hashCode\\(", "\\.toString\\("
  };

  public static void main(String[] args) throws Exception {
    lookAtFace();
    lookAtInnerClasses();
    lookAtSource();
    CHECKS.end();
  }

  private static String signature(Method m) {
    StringBuilder text = new StringBuilder(m.getReturnType() + " " + m.getName() + "(");
    for (Class<?> type : m.getParameterTypes()) {
      text.append(text.charAt(text.length() - 1) == '(' ? "" : ",").append(type);
    }
    return text.append(")").toString();
  }

  private static void lookAtFace() {
    Class<?> face = LicenceRules.class;
    CHECKS.due("final", Modifier.isFinal(face.getModifiers()), true);
    Set<String> want = new TreeSet<>(Set.of(FACE));
    Set<String> names = new TreeSet<>();
    for (Method m : face.getDeclaredMethods()) {
      if (Modifier.isPublic(m.getModifiers())) {
        CHECKS.due("in the document: " + signature(m), want.remove(signature(m)), true);
        names.add(m.getName());
      }
    }
    CHECKS.due("missing: " + want, want.size(), 0);
    for (Method m : face.getDeclaredMethods()) {
      if (!Modifier.isPublic(m.getModifiers())) {
        CHECKS.due("private: " + m, Modifier.isPrivate(m.getModifiers()), true);
        CHECKS.due("a public one's name: " + m, names.contains(m.getName()), false);
      }
    }
    for (Field f : face.getDeclaredFields()) {
      boolean open = f.getName().equals("NONE");
      CHECKS.due("field " + f, Modifier.isPublic(f.getModifiers()), open);
      CHECKS.due("field " + f, Modifier.isPrivate(f.getModifiers()), !open);
    }
    Constructor<?>[] made = face.getDeclaredConstructors();
    CHECKS.due("constructors", made.length, 1);
    CHECKS.due("without parameters", made[0].getParameterCount(), 0);
  }

  private static void lookAtInnerClasses() {
    Class<?>[] inside = LicenceRules.class.getDeclaredClasses();
    CHECKS.due("at most twelve classes", inside.length < 12, true);
    for (Class<?> one : inside) {
      CHECKS.due("static: " + one, Modifier.isStatic(one.getModifiers()), true);
      for (Field f : one.getDeclaredFields()) {
        boolean constant = Modifier.isFinal(f.getModifiers());
        CHECKS.due("static state: " + f, !Modifier.isStatic(f.getModifiers()) || constant, true);
      }
      for (Method m : one.getDeclaredMethods()) {
        CHECKS.due("at most seven parameters: " + m, m.getParameterCount() <= 7, true);
      }
    }
  }

  private static void lookAtSource() throws Exception {
    String source = Files.readString(Path.of(System.getProperty("program")));
    String code = source.replaceAll("(?s)/\\*.*?\\*/", "").replaceAll("//[^\n]*", "");
    for (String word : LEFT_OUT) {
      Matcher m = Pattern.compile(word).matcher(code);
      CHECKS.due("in the source: " + word, m.find(), false);
    }
  }
}
