import java.io.IOException;
import java.nio.file.Files;
import java.nio.file.Path;
import java.util.regex.Matcher;
import java.util.regex.Pattern;

/**
 * The sentences of the document, one by one, each with the answers that it asks for: says() begins
 * one, and what is compared until the next one belongs to it. At the end every sentence of the terms
 * and of the promises must have been told, so that none is left without a test.
 */
final class Sentences {
  static final int TERMS = 0;
  private static final int PROMISES = 40;

  final Due due;
  NobodySails x = new NobodySails();
  private final boolean hasDocument;
  private final String[] texts = new String[PROMISES + 1];
  private final boolean[][] told = new boolean[PROMISES + 1][];
  private String latest = "";
  private int comparedBefore;

  Sentences(Due due, Path document) throws IOException {
    this.due = due;
    hasDocument = Files.isReadable(document);
    if (!hasDocument) {
      // The answers are still compared, so a place without the document can run the test.
      System.out.println(document + " is not there: the sentences are not compared with it");
      return;
    }
    String whole = Files.readString(document).replaceAll("```(text)?", " ").replaceAll("\\s+", " ");
    texts[TERMS] = between(whole, "what the court should have asked; images. ", "## The public face")
        + between(whole, "## Terms ", "Ahead of the calls `row`");
    for (int promise = 1; promise <= PROMISES; promise++) {
      texts[promise] = between(whole, "## Promise " + promise + ": ", "## ").replaceFirst("^.*?`: ", "");
    }
    for (int i = 0; i <= PROMISES; i++) {
      told[i] = new boolean[texts[i].length()];
    }
  }

  private static String between(String whole, String head, String foot) {
    int from = whole.indexOf(head);
    int to = whole.indexOf(foot, from + head.length());
    if (from < 0 || to < 0) {
      throw new IllegalStateException("the document has no part " + head);
    }
    return whole.substring(from + head.length(), to);
  }

  /** Words of a promise (or of TERMS), as the document has them. */
  void says(int promise, String words) {
    endLatest();
    latest = promise + ": " + words;
    due.belongsTo("");
    if (hasDocument) {
      quote(promise, words);
    }
    due.belongsTo(latest);
    comparedBefore = due.compared();
  }

  private void quote(int promise, String words) {
    int from = texts[promise].indexOf(words);
    due.same("the document says at " + latest, from >= 0 ? 1 : 0, 1);
    for (int i = from; from >= 0 && i < from + words.length(); i++) {
      told[promise][i] = true;
    }
  }

  private void endLatest() {
    if (!latest.isEmpty()) {
      due.same("has a test", due.compared() > comparedBefore ? 1 : 0, 1);
    }
  }

  /** Every sentence must have been told. */
  void end() {
    endLatest();
    due.belongsTo("");
    for (int i = 0; hasDocument && i <= PROMISES; i++) {
      StringBuilder left = new StringBuilder();
      for (int k = 0; k < told[i].length; k++) {
        left.append(told[i][k] ? '|' : texts[i].charAt(k));
      }
      Matcher words = Pattern.compile("[^|]*[A-Za-z][^|]*").matcher(left);
      while (words.find()) {
        due.same("what has no test at " + i, words.group(), "nothing");
      }
    }
  }

  /** A new object, without a sea. */
  void anew() {
    x = new NobodySails();
  }

  /** A new object that has read a text. */
  void at(String text) {
    x = Due.at(text);
  }

  void is(long want, String method, long... arguments) {
    due.is(want, x, method, arguments);
  }

  void bad(String method, long... arguments) {
    is(Due.BAD, method, arguments);
  }

  /** Each of the numbers, at the argument that is told as 0 .. and so on, is BAD; the others stay. */
  void badAt(int place, long[] numbers, String method, long... arguments) {
    for (long number : numbers) {
      long[] given = arguments.clone();
      given[place] = number;
      bad(method, given);
    }
  }

  /** The object reads a text; how many STORIES. */
  void reads(long stories, String text) {
    due.reads(x, stories, text);
  }

  /** A new object refuses a text with a FAULT at the place that is marked by ^ in it. */
  void faulty(int fault, String marked) {
    anew();
    refuses(fault, marked);
  }

  void refuses(int fault, String marked) {
    int place = marked.indexOf('^');
    String text = marked.substring(0, place) + marked.substring(place + 1);
    due.faulty(x, fault, place, text);
  }

  /** A new object reads a text. */
  void fine(long stories, String text) {
    anew();
    reads(stories, text);
  }

  /** What ship(0), ship(1) and so on tell. */
  void ship(long... wanted) {
    for (int what = 0; what < wanted.length; what++) {
      is(wanted[what], "ship", what);
    }
  }
}
