import java.lang.reflect.Constructor;
import java.lang.reflect.Field;
import java.lang.reflect.Method;
import java.lang.reflect.Modifier;
import java.nio.file.Files;
import java.nio.file.Path;
import java.util.Arrays;
import java.util.List;
import java.util.Set;
import java.util.TreeSet;
import java.util.regex.Matcher;
import java.util.regex.Pattern;

/** The public face of the document, and those rules of LANGUAGE.md that can be looked up. */
public final class FaceTest {
  private static final String[] FACE = {"int feed(int,int,int,int,int)", "boolean end(int)", "int works()", "int fault(int)", "int has(int)",
      "int letter(int,int,int)", "int coat(int,int)", "int man(int,int)", "long warms(int,int)", "int later(int,int)", "int purse(int,int)",
      "int goes(int)", "int match(int)", "int glad(int)", "int passes(int,int,int)", "int waits(int,int)", "int called(int,int)", "int see()",
      "int had(int)", "int tells(int,int)", "int years(int)", "int chance(int)", "boolean pass(int,int)", "boolean put(int,int)",
      "boolean hang(int)", "boolean undo()", "boolean seed(int)", "int kept(int,int)", "int image()", "int octet(int)", "boolean on()",
      "int status(int)"};
  private static final String[] BANNED = {"\\bthrow\\b", "\\bthrows\\b", "\\btry\\b", "\\bcatch\\b", "\\bsynchronized\\b", "\\bassert\\b",
      "\\bimport\\b", "\\bpackage\\b", "\\bprotected\\b", "->", "::", "Exact\\(", "\\bThread\\b", "\\bRandom\\b", "\\bObject\\b",
      "\\bInteger\\.[A-Z]", "\\bLong\\.[A-Z]", "\\bnanoTime\\b", "\\bcurrentTimeMillis\\b", "static \\{"};
  private static int wrong = 0;

  public static void main(String[] args) throws Exception {
    members();
    inside();
    source(Files.readString(Path.of("src/main/java/PegCoats.java")));
    System.out.println(wrong == 0 ? "the face is as due" : wrong + " things are not as due");
    if (wrong != 0) System.exit(1);
  }

  private static void due(String what, boolean holds) {
    if (!holds) { wrong++; System.out.println("not so: " + what); }
  }

  private static void members() {
    due("the class is public and final", PegCoats.class.getModifiers() == (Modifier.PUBLIC | Modifier.FINAL));
    Set<String> face = new TreeSet<>();
    Set<String> names = new TreeSet<>();
    for (Method m : PegCoats.class.getDeclaredMethods()) {
      if (Modifier.isPrivate(m.getModifiers())) continue;
      due(m + " is public and nothing else", m.getModifiers() == Modifier.PUBLIC);
      face.add(m.getReturnType() + " " + m.getName() + Arrays.toString(m.getParameterTypes()).replace("[", "(").replace("]", ")").replace(" ", ""));
      names.add(m.getName());
    }
    due("the methods are those of the document, not " + face, face.equals(new TreeSet<>(List.of(FACE))));
    for (Class<?> c : PegCoats.class.getDeclaredClasses()) {
      for (Method m : c.getDeclaredMethods()) due(m + " has a name of its own", !names.contains(m.getName()));
    }
    for (Method m : PegCoats.class.getDeclaredMethods()) {
      if (Modifier.isPrivate(m.getModifiers())) due(m + " has a name of its own", !names.contains(m.getName()));
    }
    Constructor<?>[] made = PegCoats.class.getDeclaredConstructors();
    due("one constructor, public, of nothing", made.length == 1 && made[0].getModifiers() == Modifier.PUBLIC && made[0].getParameterCount() == 0);
    for (Field f : PegCoats.class.getDeclaredFields()) {
      boolean constant = f.getName().equals("NONE") || f.getName().equals("NOTHING");
      due(f + " is public if it is a constant of the document", Modifier.isPublic(f.getModifiers()) == constant);
      due(f + " is private if not", Modifier.isPrivate(f.getModifiers()) != constant);
    }
  }

  private static void inside() {
    Class<?>[] classes = PegCoats.class.getDeclaredClasses();
    due("some twelve classes at most", classes.length + 1 <= 12);
    for (Class<?> c : classes) {
      due(c + " is static", Modifier.isStatic(c.getModifiers()));
      due(c + " is private or package-visible", !Modifier.isPublic(c.getModifiers()) && !Modifier.isProtected(c.getModifiers()));
      due(c + " has no classes of its own", c.getDeclaredClasses().length == 0);
      fieldsOf(c);
      for (Method m : c.getDeclaredMethods()) due(m + " has seven parameters at most", m.getParameterCount() <= 7);
    }
    fieldsOf(PegCoats.class);
  }

  private static void fieldsOf(Class<?> c) {
    int own = 0;
    for (Field f : c.getDeclaredFields()) {
      if (Modifier.isStatic(f.getModifiers())) due(f + " is final", Modifier.isFinal(f.getModifiers())); else own++;
    }
    due(c + " has some twenty fields at most", own <= 20);
  }

  private static void source(String text) {
    String code = text.replaceAll("(?s)/\\*.*?\\*/", "").replaceAll("//[^\n]*", "").replaceAll("\"[^\"\n]*\"", "\"\"");
    for (String banned : BANNED) {
      Matcher found = Pattern.compile(banned).matcher(code);
      due("no " + banned + " in the program", !found.find());
    }
    String head = "( {4}| {8})(?! |if|for|while|switch)[\\w\\[\\] ]+\\(.*\\) \\{";
    String[] lines = text.split("\n");
    int begun = -1;
    int indent = 0;
    for (int k = 0; k < lines.length; k++) {
      if (lines[k].matches(head)) { begun = k; indent = lines[k].indexOf(lines[k].trim()); }
      if (begun >= 0 && lines[k].equals(" ".repeat(indent) + "}")) {
        due("the method of line " + (begun + 1) + " has some sixty lines at most", k - begun <= 60);
        begun = -1;
      }
    }
  }
}
