import java.io.IOException;
import java.nio.file.Files;
import java.nio.file.Path;
import java.util.function.IntToLongFunction;

/** What the edge tests share: which sentence is looked at, and an answer held against the one that is due. */
final class Check {
  static final int BAD = -1, STATE = -2, FULL = -3, NONE = -4;

  private static final int PROMISES = 41;
  private static final boolean[] looked = new boolean[PROMISES + 1];
  private static String doc = null;
  private static String where = "";
  private static int wrong = 0;
  private static int asked = 0;
  private static int sentences = 0;

  private Check() {
  }

  /** The sentence that the next answers are due by; 0 is the document's Terms. It must stand in the document so. */
  static void says(int promise, String sentence) {
    where = (promise == 0 ? "terms" : "promise " + promise) + ", '" + sentence + "'";
    looked[promise] = true;
    sentences++;
    if (!doc().isEmpty() && !partOf(promise).contains(sentence)) {
      fail("does not stand in the document");
    }
  }

  private static String partOf(int promise) {
    int from = doc().indexOf(promise == 0 ? "## Terms" : "## Promise " + promise + ":");
    int to = doc().indexOf("\n## ", from + 1);
    return from < 0 || to < 0 ? "" : doc().substring(from, to);
  }

  /** The answers can be asked without the document too; then no quote is looked up. */
  private static String doc() {
    if (doc == null) {
      try {
        doc = Files.readString(Path.of("../shared/DOC.md"));
      } catch (IOException e) {
        System.out.println("../shared/DOC.md can not be read: quotes are not looked up");
        doc = "";
      }
    }
    return doc;
  }

  private static void fail(String why) {
    wrong++;
    System.out.println(where + ": " + why);
  }

  static void due(String what, long got, long want) {
    asked++;
    if (got != want) {
      fail(what + " answered " + got + ", due is " + want);
    }
  }

  static void isTrue(String what, boolean is) {
    asked++;
    if (!is) {
      fail(what);
    }
  }

  /** Each number from least to most is taken, and none beside: BAD. The call makes an object of its own each time. */
  static void takes(String what, int least, int most, IntToLongFunction call) {
    for (int v = least; v <= most; v++) {
      isTrue(what + " of " + v + " is refused", call.applyAsLong(v) != BAD);
    }
    int[] beside = {least - 1, most + 1, least - 100000, most + 100000, Integer.MIN_VALUE, Integer.MAX_VALUE};
    for (int v : beside) {
      due(what + " of " + v, call.applyAsLong(v), BAD);
    }
  }

  static void feedAll(StarWalk x, String text) {
    for (int i = 0; i < text.length(); i++) {
      x.feed(text.charAt(i));
    }
  }

  static int tell(StarWalk x, String text) {
    feedAll(x, text);
    return x.text();
  }

  /** A new object that a text has told all; the text must be one that is taken. */
  static StarWalk told(String text) {
    StarWalk x = new StarWalk();
    isTrue("'" + text + "' is not taken", tell(x, text) >= 0);
    return x;
  }

  static StarWalk rested(StarWalk x, int hours) {
    for (int i = 0; i < hours; i++) {
      x.go(6);
    }
    return x;
  }

  static void at(StarWalk x, int hour, int miles, int side, int water) {
    due("hour", x.rule(8), hour);
    due("miles", x.rule(9), miles);
    due("1000 and side", x.rule(10), 1000 + side);
    due("water", x.rule(6), water);
  }

  /** Ends the test; each promise from first to last must have been looked at. */
  static void finish(int first, int last) {
    for (int p = first; p <= last; p++) {
      where = "promise " + p;
      isTrue("no sentence of it was looked at", looked[p]);
    }
    System.out.println(sentences + " sentences, " + asked + " answers asked, " + wrong + " wrong");
    if (wrong != 0) {
      System.exit(1);
    }
  }
}
