import java.io.IOException;
import java.lang.reflect.Constructor;
import java.lang.reflect.Field;
import java.lang.reflect.Method;
import java.lang.reflect.Modifier;
import java.nio.charset.StandardCharsets;
import java.nio.file.Files;
import java.nio.file.Path;
import java.util.Random;
import java.util.Set;
import java.util.TreeSet;
import java.util.regex.Matcher;
import java.util.regex.Pattern;

/** The public face, the rules of LANGUAGE.md that a program can look at, and calls with wild arguments. */
public final class LanguageTest {
  private static final Path SOURCE = Path.of("src/main/java/HotPipes.java");
  private static final String[] FACE = {
    "int amount(int,int,int,int)", "int asked()", "int bar(int,int,boolean)", "int bestLoop(int,int)",
    "int change(int,int)", "int choose(int,int)", "int copy(int,int,int,int,int)", "int count(int)", "int cut()",
    "int cycle(int,int)", "int drop(int)", "int finding()", "int findings(int)", "int firm(int,int)",
    "int grown(int,int)", "int is(int,int)", "int lay(int,int,int)", "int leg(int,int,int)", "int lifts(int,int)",
    "int list(int)", "int load(int,int)", "int loop(int,int,int,int)", "int mean(int)", "int missing(int)",
    "int move(int,int)", "int read(int,int)", "int rest(int,int,int)", "int soft(int,int)", "int stuff(int,int)",
    "int tear(int)", "int told(int,int)", "int used()", "int weigh(int,int)", "int where(int,int)", "int worst()",
    "long digest()", "long lower()", "long upper()"};
  private static final String[] BARRED_WORDS = {"throw", "throws", "try", "catch", "synchronized", "assert", "package",
    "protected", "lambda", "Exception", "Object", "equals", "hashCode", "toString", "Random", "System.currentTimeMillis",
    "System.nanoTime", "Thread", "Exact", "->", "::"};
  private static int wrong = 0;

  private static void due(String what, Object got, Object want) {
    if (!got.equals(want)) {
      wrong++;
      System.out.println(what + ": is " + got + ", due is " + want);
    }
  }

  private static String told(Method m) {
    StringBuilder text = new StringBuilder(m.getReturnType() + " " + m.getName() + "(");
    for (Class<?> type : m.getParameterTypes()) text.append(text.charAt(text.length() - 1) == '(' ? "" : ",").append(type);
    return text.append(")").toString();
  }

  private static void face() {
    due("public and final", Modifier.toString(HotPipes.class.getModifiers()), "public final");
    Set<String> shown = new TreeSet<>();
    Set<String> hiddenNames = new TreeSet<>();
    for (Method m : HotPipes.class.getDeclaredMethods()) {
      if (Modifier.isPrivate(m.getModifiers())) hiddenNames.add(m.getName());
      else {
        shown.add(told(m));
        due(told(m), Modifier.toString(m.getModifiers()), "public");
      }
    }
    due("the methods", shown, new TreeSet<>(Set.of(FACE)));
    for (Method m : HotPipes.class.getDeclaredMethods()) {
      if (Modifier.isPublic(m.getModifiers())) due("private too: " + m.getName(), hiddenNames.contains(m.getName()), false);
    }
    Set<String> fields = new TreeSet<>();
    for (Field f : HotPipes.class.getDeclaredFields()) {
      if (!Modifier.isPrivate(f.getModifiers())) fields.add(Modifier.toString(f.getModifiers()) + " " + f.getName());
    }
    due("the constants", fields, new TreeSet<>(Set.of("public static final BAD", "public static final FULL",
        "public static final FINDING", "public static final STATE", "public static final NONE")));
    Constructor<?>[] constructors = HotPipes.class.getDeclaredConstructors();
    due("constructors", constructors.length, 1);
    due("the constructor", Modifier.toString(constructors[0].getModifiers()), "public");
  }

  private static void classesInside() {
    Class<?>[] inside = HotPipes.class.getDeclaredClasses();
    due("at most twelve classes", inside.length <= 12, true);
    for (Class<?> c : inside) {
      int m = c.getModifiers();
      due(c + " is static and not public", Modifier.isStatic(m) && !Modifier.isPublic(m) && !Modifier.isProtected(m), true);
      fieldsOf(c);
    }
    fieldsOf(HotPipes.class);
  }

  private static void fieldsOf(Class<?> c) {
    int own = 0;
    for (Field f : c.getDeclaredFields()) {
      if (Modifier.isStatic(f.getModifiers())) due(f + " is final", Modifier.isFinal(f.getModifiers()), true);
      else own++;
    }
    due(c + " has at most twenty fields", own <= 20, true);
  }

  private static void words() throws IOException {
    String source = Files.readString(SOURCE, StandardCharsets.UTF_8);
    due("characters 0 to 127", source.chars().allMatch(c -> c < 128), true);
    String code = source.replaceAll("(?s)/\\*.*?\\*/", "").replaceAll("//[^\n]*", "");
    for (String word : BARRED_WORDS) {
      boolean isWord = Character.isLetter(word.charAt(0)) && Character.isLetter(word.charAt(word.length() - 1));
      String pattern = isWord ? "\\b" + Pattern.quote(word) + "\\b" : Pattern.quote(word);
      due("the word " + word, Pattern.compile(pattern).matcher(code).find(), false);
    }
    Matcher imports = Pattern.compile("import ([^;]*);").matcher(code);
    while (imports.find()) due("import", imports.group(1), "java.util.Arrays");
    due("no for or while without an end", Pattern.compile("for \\(;;|while \\(true").matcher(code).find(), false);
  }

  /** Every call with arguments from the edges, in states that grow: none may throw. */
  private static void wildArguments() {
    int[] wild = {Integer.MIN_VALUE, Integer.MIN_VALUE + 1, -10000, -9, -1, 0, 1, 2, 3, 4, 5, 6, 7, 8, 11, 12, 13, 15,
      16, 20, 50, 60, 100, 500, 10000, 100000, Integer.MAX_VALUE - 1, Integer.MAX_VALUE};
    Method[] calls = new Method[FACE.length];
    for (Method m : HotPipes.class.getDeclaredMethods()) {
      for (int i = 0; i < FACE.length; i++) if (told(m).equals(FACE[i])) calls[i] = m;
    }
    Random chance = new Random(7);
    for (int run = 0; run < 400; run++) {
      HotPipes x = new HotPipes();
      for (int n = 0; n < 512; n++) wildCall(x, calls[chance.nextInt(calls.length)], wild, chance);
    }
  }

  private static void wildCall(HotPipes x, Method m, int[] wild, Random chance) {
    Object[] arguments = new Object[m.getParameterCount()];
    for (int k = 0; k < arguments.length; k++) {
      if (m.getParameterTypes()[k] == boolean.class) arguments[k] = chance.nextBoolean();
      else arguments[k] = chance.nextInt(3) == 0 ? wild[chance.nextInt(wild.length)] : chance.nextInt(13);
    }
    try {
      m.invoke(x, arguments);
    } catch (ReflectiveOperationException e) {
      wrong++;
      System.out.println(told(m) + " threw " + e.getCause());
    }
  }

  /** The room of one run: no call makes anything, so it is enough to look at what is made at first. */
  private static void room() throws IOException {
    String source = Files.readString(SOURCE, StandardCharsets.UTF_8);
    int made = 0;
    Matcher news = Pattern.compile("\\bnew \\w").matcher(source);
    while (news.find()) made++;
    Matcher kept = Pattern.compile("(?m)^( {8}private final [^;]* = new \\w|        \\w+ = new \\w)").matcher(source);
    int atFirst = 0;
    while (kept.find()) atFirst++;
    due("all that is made is made in constructors", made, atFirst);
  }

  public static void main(String[] args) throws IOException {
    face();
    classesInside();
    words();
    wildArguments();
    room();
    System.out.println(wrong == 0 ? "the face and the language are kept" : wrong + " things are not as due");
    if (wrong != 0) System.exit(1);
  }
}
