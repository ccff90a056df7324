import java.io.IOException;
import java.lang.reflect.Constructor;
import java.lang.reflect.Field;
import java.lang.reflect.Method;
import java.lang.reflect.Modifier;
import java.nio.file.Files;
import java.nio.file.Path;
import java.util.Set;
import java.util.TreeSet;
import java.util.regex.Matcher;
import java.util.regex.Pattern;

/** The public face, and the rules of LANGUAGE.md that can be seen from outside. */
final class FaceTest {
  private static final Due due = new Due("FaceTest");
  private static final String FACE = "NONE:int NOT:long row(int,int,int):long set(int,int,int):long "
      + "copy(int,int,int,int,int):long drop(int):long feed(long,int):long sea():long fault():int "
      + "put(int,int,int):long head(int):long sailed(int,int,int):long blown(int,int,int):long ship(int):long "
      + "herself(int,int,int,int,int):long could(int,int):long leftAt(int,int,int):long "
      + "leftOdds(int,int,int,int,int):long boat(int,int,int):long thought(int,int,int):long "
      + "seemed(int,int,int):long deep(int):long was(int,int,int,int):long bang(int,int,int,int,int):long "
      + "leave(int,int,int):long leastWater(int):long sign(int,int):long oath(int):long madeUp(int):long "
      + "odds(int,int,int):long likeliest(int):long lacks(int,int,int):long next(int):long image(int):long "
      + "restore(int):long kind(int):long as(int,int):long ask(int,int):long trace(int):int count(int):long "
      + "status():int";

  public static void main(String[] args) throws IOException {
    face();
    classes();
    words();
    due.end();
  }

  private static void face() {
    Set<String> shown = new TreeSet<>();
    for (Field f : NobodySails.class.getDeclaredFields()) {
      if (!Modifier.isPrivate(f.getModifiers())) {
        shown.add(f.getName() + ":" + f.getType());
      }
      boolean fixed = !Modifier.isStatic(f.getModifiers()) || Modifier.isFinal(f.getModifiers());
      due.same("static " + f.getName() + " is final", fixed ? 1 : 0, 1);
    }
    for (Method m : NobodySails.class.getDeclaredMethods()) {
      if (!Modifier.isPrivate(m.getModifiers())) {
        StringBuilder types = new StringBuilder();
        for (Class<?> type : m.getParameterTypes()) {
          types.append(types.length() == 0 ? "" : ",").append(type);
        }
        shown.add(m.getName() + "(" + types + "):" + m.getReturnType());
      }
    }
    due.same("the face", String.join(" ", shown), String.join(" ", new TreeSet<>(Set.of(FACE.split(" ")))));
    due.same("NONE", NobodySails.NONE, -1000000);
    due.same("NOT", NobodySails.NOT, -9000000000000000000L);
    Constructor<?>[] made = NobodySails.class.getDeclaredConstructors();
    due.same("constructors", made.length, 1);
    due.same("its modifiers", made[0].getModifiers(), Modifier.PUBLIC);
    due.same("its parameters", made[0].getParameterCount(), 0);
    due.same("the class", NobodySails.class.getModifiers(), Modifier.PUBLIC | Modifier.FINAL);
  }

  private static void classes() {
    Set<String> names = new TreeSet<>();
    for (String member : FACE.split(" ")) {
      names.add(member.replaceAll("[(:].*", ""));
    }
    for (Method m : NobodySails.class.getDeclaredMethods()) {
      boolean isPrivate = Modifier.isPrivate(m.getModifiers());
      due.same(m.getName() + " is a name of the face", names.contains(m.getName()) == isPrivate ? 1 : 0, 0);
    }
    due.same("some twelve classes", NobodySails.class.getDeclaredClasses().length < 12 ? 1 : 0, 1);
    for (Class<?> inside : NobodySails.class.getDeclaredClasses()) {
      due.same(inside.getName() + " is static", Modifier.isStatic(inside.getModifiers()) ? 1 : 0, 1);
      for (Method m : inside.getDeclaredMethods()) {
        due.same(m.getName() + " is a name of the face", names.contains(m.getName()) ? 1 : 0, 0);
        due.same(m.getName() + " has few parameters", m.getParameterCount() <= 7 ? 1 : 0, 1);
      }
      due.same(inside.getName() + "'s fields", inside.getDeclaredFields().length <= 20 ? 1 : 0, 1);
    }
  }

  private static void words() throws IOException {
    String source = Files.readString(Path.of("src/main/java/NobodySails.java"));
    String code = source.replaceAll("(?s)/\\*.*?\\*/", "").replaceAll("//[^\n]*", "");
    String ruledOut = "\\b(throw|throws|try|catch|synchronized|assert|package|import|protected|record|var|null)\\b"
        + "|->|::|\\w+Exact\\b|\"\\s*\\+|\\+\\s*\"|\\bSystem\\.(?!arraycopy)";
    Matcher found = Pattern.compile(ruledOut).matcher(code);
    due.same("what is ruled out", found.find() ? found.group() : "nothing", "nothing");
    due.same("signs of the source are 1 to 127", source.matches("(?s)[\\x01-\\x7f]*") ? 1 : 0, 1);
  }
}
