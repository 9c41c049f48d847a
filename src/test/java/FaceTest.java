import java.lang.reflect.Field;
import java.lang.reflect.Method;
import java.lang.reflect.Modifier;
import java.nio.file.Files;
import java.nio.file.Path;
import java.util.List;
import java.util.Set;
import java.util.TreeSet;
import java.util.regex.Matcher;
import java.util.regex.Pattern;

/** The document's public face, and the rules of LANGUAGE.md that can be seen in the text of the class. */
public final class FaceTest {
  private static final Due due = new Due("FaceTest");
  private static final List<String> FACE = List.of(
      "boolean bottle(int,int)", "boolean ink(int,int)", "boolean nerve(int)", "int pressed(int,int)",
      "int feed(int,int,int,int,int)", "int law(int)", "int grief(int,int)", "int letter(int)", "int days(int)",
      "int tried(int,int)", "int bottleIs(int,int)", "int fear(int,int,int)", "int rhyme(int)",
      "int used(int,int,int)", "int changes(int)", "int leastSalt(int)", "int mixture(int,int,int)", "int whose(int)",
      "int next(int,int)", "int guard(int)", "int training(int,int,int)", "int borne(int)", "int treaty(int,int,int)",
      "int forgery(int,int)", "int rings(int,int)", "boolean seed(int)", "int keep()", "boolean undo()",
      "int check(int)", "int count(int)");

  public static void main(String[] args) throws Exception {
    face();
    insideClasses();
    if (args.length > 0) {
      text(Files.readString(Path.of(args[0])));
    }
    due.end();
  }

  private static void face() throws Exception {
    Set<String> shown = new TreeSet<>();
    for (Method method : AfraidInk.class.getDeclaredMethods()) {
      if (!Modifier.isPrivate(method.getModifiers())) {
        due.is(method + " is public", Modifier.isPublic(method.getModifiers()), true);
        shown.add(signature(method));
      } else {
        due.is(method + " bears no name of the face", names().contains(method.getName()), false);
      }
    }
    due.is("the methods of the face: " + shown, shown.equals(new TreeSet<>(FACE)), true);
    for (Field field : AfraidInk.class.getDeclaredFields()) {
      boolean isPrivate = Modifier.isPrivate(field.getModifiers());
      due.is(field + " is private or NONE", isPrivate || field.getName().equals("NONE"), true);
      boolean isStatic = Modifier.isStatic(field.getModifiers());
      due.is(field + " is no static state", !isStatic || Modifier.isFinal(field.getModifiers()), true);
    }
    due.is("one constructor", AfraidInk.class.getDeclaredConstructors().length, 1);
    due.is("it is public", Modifier.isPublic(AfraidInk.class.getDeclaredConstructor().getModifiers()), true);
    due.is("final", Modifier.isFinal(AfraidInk.class.getModifiers()), true);
    due.is("NONE is public", Modifier.isPublic(AfraidInk.class.getField("NONE").getModifiers()), true);
  }

  private static String signature(Method method) {
    StringBuilder text = new StringBuilder(method.getReturnType().getName() + " " + method.getName() + "(");
    for (Class<?> type : method.getParameterTypes()) {
      text.append(text.charAt(text.length() - 1) == '(' ? "" : ",").append(type.getName());
    }
    return text.append(')').toString();
  }

  private static Set<String> names() {
    Set<String> names = new TreeSet<>();
    for (String signature : FACE) {
      names.add(signature.substring(signature.indexOf(' ') + 1, signature.indexOf('(')));
    }
    return names;
  }

  private static void insideClasses() {
    Class<?>[] inside = AfraidInk.class.getDeclaredClasses();
    due.is("some twelve classes at most", inside.length <= 11, true);
    for (Class<?> one : inside) {
      due.is(one + " is static", Modifier.isStatic(one.getModifiers()), true);
      int own = 0;
      for (Field field : one.getDeclaredFields()) {
        boolean isStatic = Modifier.isStatic(field.getModifiers());
        due.is(field + " is no static state", !isStatic || Modifier.isFinal(field.getModifiers()), true);
        own += isStatic ? 0 : 1;
      }
      due.is(one + " has some twenty fields at most", own <= 20, true);
      for (Method method : one.getDeclaredMethods()) {
        due.is(method + " bears no name of the face", names().contains(method.getName()), false);
        due.is(method + " takes seven at most", method.getParameterCount() <= 7, true);
      }
    }
  }

  private static void text(String source) {
    String code = source.replaceAll("(?s)/\\*.*?\\*/", " ").replaceAll("//[^\n]*", " ")
        .replaceAll("\"[^\"\n]*\"", "\"\"");
    String[] without = {"throw", "throws", "try", "catch", "finally", "synchronized", "assert", "package", "double",
        "float", "import", "\\w+Exact", "random", "System(?!.arraycopy)", "->", "::", "instanceof", "equals", "hashCode",
        "toString", "static \\{"};
    for (String word : without) {
      String bounded = Character.isLetter(word.charAt(word.length() - 1)) ? "\\b" + word + "\\b" : word;
      due.is("no " + word, Pattern.compile(bounded).matcher(code).find(), false);
    }
    due.is("a while has a counter", Pattern.compile("while \\((?!digits)").matcher(code).find(), false);
    for (int i = 0; i < source.length(); i++) {
      if (source.charAt(i) > 126) {
        due.is("sign at " + i, source.charAt(i), '?');
      }
    }
    longestMethod(source);
  }

  private static void longestMethod(String source) {
    Matcher head = Pattern.compile("(?m)^( {4}| {8})(?! )[^=;\\n]*\\) \\{$").matcher(source);
    while (head.find()) {
      int end = source.indexOf("\n" + head.group(1) + "}\n", head.end());
      long lines = source.substring(head.start(), end).lines().count();
      due.is(head.group().trim() + " is short", lines <= 60, true);
    }
  }
}
