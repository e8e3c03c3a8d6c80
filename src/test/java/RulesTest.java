import java.lang.reflect.Constructor;
import java.lang.reflect.Field;
import java.lang.reflect.Method;
import java.lang.reflect.Modifier;
import java.nio.file.Files;
import java.nio.file.Path;
import java.util.ArrayList;
import java.util.List;
import java.util.Set;
import java.util.TreeSet;
import java.util.regex.Matcher;
import java.util.regex.Pattern;

/** What of LANGUAGE.md can be told by looking: the face, the words that are ruled out, lengths; and that odd calls end well. */
public final class RulesTest {
  private static final String FACE = "int type(int,int) int wipe(int) int undo(int) int fault(int) int bridge(int,int)"
      + " int boat(int,int) int sham(int,int) int back() int read(int) int lifts(int,int) int at(int,int)"
      + " int passes(int,int,int) int waits(int) int through(int) int first(int) int cargo(int,int) int sail(int,int)"
      + " int away(int) int seen(int,int,int) int forget() int liked(int,int) int under(int) int ask(int,int)"
      + " long believed(int,int,int,int) int loads(int,int,int,int) int sheet(int,int,int) int lose(int)"
      + " int lay(int,int,int,int) int get(int,int,int) int copy(int,int,int,int,int) int write(int,int) int count(int)"
      + " long digest()";
  private static final int[] ODD = {Integer.MIN_VALUE, -257, -2, -1, 0, 1, 2, 3, 5, 6, 7, 8, 9, 16, 59, 60, 61, 99, 100,
      255, 256, Integer.MAX_VALUE};
  private static int wrong = 0;

  private static void check(boolean fine, String what) {
    if (!fine) {
      wrong++;
      System.out.println("against the rules: " + what);
    }
  }

  public static void main(String[] args) throws Exception {
    face();
    words(Files.readString(Path.of("src/main/java/BowingBridges.java")));
    oddCalls("", "");
    oddCalls("la1;nb1;mc1;ld1;le2;nf9;mb3;la1", "abcdef0;aabbcc1;0;fff9;d4;e5;a0;b8");
    oddCalls("la1;", "a0;b0;");
    System.out.println(wrong == 0 ? "the rules are kept" : wrong + " things are against the rules");
    if (wrong != 0) {
      System.exit(1);
    }
  }

  private static void face() {
    Class<?> c = BowingBridges.class;
    check(Modifier.isPublic(c.getModifiers()) && Modifier.isFinal(c.getModifiers()), "public and final");
    Set<String> names = new TreeSet<>();
    for (Method m : c.getDeclaredMethods()) {
      if (Modifier.isPublic(m.getModifiers())) {
        String takes = "int,".repeat(m.getParameterCount()).replaceAll(",$", "");
        String one = m.getReturnType() + " " + m.getName() + "(" + takes + ")";
        check((" " + FACE + " ").contains(" " + one + " "), one + " is not in the face");
        names.add(m.getName());
      }
    }
    check(names.size() == FACE.split("\\)").length, "the face has " + names.size() + " methods");
    privates(c, names);
    for (Constructor<?> k : c.getDeclaredConstructors()) {
      check(Modifier.isPublic(k.getModifiers()) && k.getParameterCount() == 0, "a constructor");
    }
    for (Class<?> inner : c.getDeclaredClasses()) {
      check(Modifier.isStatic(inner.getModifiers()), inner + " is static");
      check(!Modifier.isPublic(inner.getModifiers()) && !Modifier.isProtected(inner.getModifiers()), inner + " is not public");
      check(inner.getDeclaredFields().length <= 20, inner + " has at most some twenty fields");
      for (Method m : inner.getDeclaredMethods()) {
        check(!names.contains(m.getName()), inner + "." + m.getName() + " bears a public name");
        check(m.getParameterCount() <= 7, m + " takes at most seven");
      }
    }
    check(c.getDeclaredClasses().length < 12, "at most some twelve classes");
  }

  private static void privates(Class<?> c, Set<String> names) {
    for (Method m : c.getDeclaredMethods()) {
      if (!Modifier.isPublic(m.getModifiers())) {
        check(Modifier.isPrivate(m.getModifiers()), m + " is private");
        check(!names.contains(m.getName()), m + " bears a public name");
        check(m.getParameterCount() <= 7, m + " takes at most seven");
      }
    }
    List<String> open = new ArrayList<>();
    for (Field f : c.getDeclaredFields()) {
      if (Modifier.isPublic(f.getModifiers())) {
        open.add(f.getName());
        check(Modifier.isStatic(f.getModifiers()) && f.getType() == int.class, f + " is a constant");
      } else {
        check(Modifier.isPrivate(f.getModifiers()), f + " is private");
      }
      check(!Modifier.isStatic(f.getModifiers()) || Modifier.isFinal(f.getModifiers()), f + " is final if it is static");
    }
    check(open.equals(List.of("NONE", "BAD", "NOT", "FULL")), "the constants are " + open);
  }

  private static void words(String source) {
    String code = source.replaceAll("(?s)/\\*.*?\\*/", "").replaceAll("//[^\n]*", "");
    Matcher m = Pattern.compile("\\b(throw|throws|try|catch|finally|synchronized|assert|package|hashCode|toString|Random"
        + "|System\\.(?!arraycopy)\\w+|\\w+Exact|protected|Thread|Object)\\b|->|::").matcher(code);
    while (m.find()) {
      check(false, "the word " + m.group());
    }
    Matcher imports = Pattern.compile("import ([\\w.]+);").matcher(code);
    while (imports.find()) {
      check(imports.group(1).equals("java.util.Arrays"), "the import " + imports.group(1));
    }
    for (int i = 0; i < source.length(); i++) {
      check(source.charAt(i) < 128, "a sign above 127 at " + i);
    }
    // A method begins with four or eight blanks and ends with a brace as far in.
    for (String in : new String[] {"    ", "        "}) {
      Matcher body = Pattern.compile("(?m)^" + in + "(?! )[^\n]*\\([^\n]*\\) \\{\n((?:" + in + " [^\n]*\n|\n)*)" + in + "\\}").matcher(code);
      while (body.find()) {
        check(body.group(1).split("\n").length <= 60, "a method of over sixty lines: " + body.group().split("\n")[0]);
      }
    }
  }

  /** Every call with every odd number in every place: what the machine throws ends this test. */
  private static void oddCalls(String bridges, String boats) throws Exception {
    BowingBridges x = new BowingBridges();
    for (Method m : BowingBridges.class.getDeclaredMethods()) {
      if (!Modifier.isPublic(m.getModifiers())) {
        continue;
      }
      int n = m.getParameterCount();
      long all = Math.round(Math.pow(ODD.length, Math.min(n, 3)));
      for (long k = 0; k < all; k++) {
        if (k % 400 == 0) {
          x = fresh(bridges, boats);
        }
        Object[] with = new Object[n];
        long rest = k;
        for (int p = 0; p < n; p++) {
          with[p] = ODD[(int) ((rest + p / 3 * k / 7) % ODD.length)];
          rest /= ODD.length;
        }
        m.invoke(x, with);
      }
      x.digest();
    }
  }

  private static BowingBridges fresh(String bridges, String boats) {
    BowingBridges x = new BowingBridges();
    for (int i = 0; i < bridges.length(); i++) {
      x.type(0, bridges.charAt(i));
    }
    for (int i = 0; i < boats.length(); i++) {
      x.type(1, boats.charAt(i));
    }
    x.sham(0, 0);
    x.sham(2, 1);
    x.seen(99, 0, 8);
    x.sheet(0, 0, 60);
    x.sheet(1, 1, 3);
    x.sheet(2, 2, 0);
    return x;
  }
}
