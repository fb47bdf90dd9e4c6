import java.util.ArrayList;
import java.util.List;
import java.util.function.Supplier;

// In many states, every call with many arguments, on twins: what is refused, and what only asks, changes nothing.
public final class RefusalTest {
  private static final int LEAST = Integer.MIN_VALUE, MOST = Integer.MAX_VALUE;

  /** The calls, by number; a boolean is whether its number is above 0. */
  private static long call(StarWalk x, int call, int a, int b, int c, int d) {
    switch (call) {
      case 0: return x.feed(a);
      case 1: return x.end(a);
      case 2: return x.set(a, b);
      case 3: return x.cloud(a, b > 0);
      case 4: return x.know(a, b > 0);
      case 5: return x.turn(a, b);
      case 6: return x.teach(a, b);
      case 7: return x.plans(a);
      case 8: return x.cut(a);
      case 9: return x.go(a);
      case 10: return x.see(a, b);
      case 11: return x.forget(a);
      case 12: return x.keep(a);
      case 13: return x.back(a);
      case 14: return x.sheet(a, b, c);
      case 15: return x.lay(a, b, c);
      case 16: return x.read(a, b, c, d);
      default: return ask(x, call, a, b, c);
    }
  }

  private static long ask(StarWalk x, int call, int a, int b, int c) {
    switch (call) {
      case 17: return x.fault();
      case 18: return x.rule(a);
      case 19: return x.star(a, b);
      case 20: return x.walker(a);
      case 21: return x.plan(a);
      case 22: return x.pull(a);
      case 23: return x.up(a);
      case 24: return x.runs(a);
      case 25: return x.next();
      case 26: return x.best(a, b);
      case 27: return x.front(a);
      case 28: return x.lessons(a);
      case 29: return x.thirst();
      case 30: return x.weather();
      case 31: return x.luck(a, b);
      case 32: return x.mean(a, b);
      case 33: return x.aims(a);
      case 34: return x.whose();
      case 35: return x.fits(a);
      case 36: return x.drift(a, b, c);
      case 37: return x.torn();
      default: return x.count(a);
    }
  }

  private static final int FIRST_THAT_ASKS = 17;
  private static final int CALLS = 39;

  private static final int[] NONE_OF_IT = {0};
  private static final int[] FLAG = {0, 1};
  private static final int[] SMALL = {LEAST, -1, 0, 1, 2, 3, 4, 5, 6, 7, 8, 9, 10, 11, 12, 13, 14, MOST};
  private static final int[] WIDE = {LEAST, -101, -100, -99, -1, 0, 1, 7, 9, 10, 11, 40, 41, 99, 100, 127, 128, 159, 160, 161, MOST};
  private static final int[] FEW = {LEAST, -1, 0, 1, 2, 3, 4, MOST};
  private static final int[] CELL = {LEAST, -1, 0, 1, 2, 3, 5, 38, 39, 40, 41, MOST};
  private static final int[] TIMES = {LEAST, -1, 0, 1, 2, 3, 10, 11, MOST};
  private static final int[] VALUE = {LEAST, -1, 0, 6, 256, 65536, MOST};

  /** What each call is tried with. */
  private static int[][] tried(int call) {
    switch (call) {
      case 0: case 1: return of(WIDE);
      case 2: return of(SMALL, WIDE);
      case 3: case 4: return of(SMALL, FLAG);
      case 5: case 6: return of(FEW, SMALL);
      case 10: return of(SMALL, WIDE);
      case 14: return of(FEW, FEW, CELL);
      case 15: return of(FEW, CELL, VALUE);
      case 16: return of(FEW, FEW, CELL, TIMES);
      case 17: case 25: case 29: case 30: case 34: case 37: return of(NONE_OF_IT);
      case 19: return of(SMALL, FEW);
      case 26: return of(FEW, SMALL);
      case 31: case 32: return of(SMALL, FEW);
      case 36: return of(VALUE, new int[] {LEAST, 0, 1, 30, 31, MOST}, FEW);
      default: return of(SMALL);
    }
  }

  private static int[][] of(int[]... given) {
    int[][] all = {NONE_OF_IT, NONE_OF_IT, NONE_OF_IT, NONE_OF_IT};
    System.arraycopy(given, 0, all, 0, given.length);
    return all;
  }

  // ---- looks

  /** All that the calls tell of what is now. */
  private static void look(StarWalk x, List<Long> told) {
    for (int what = 0; what <= 12; what++) {
      told.add((long) x.rule(what));
    }
    for (int s = 0; s < 5; s++) {
      for (int what = 0; what < 4; what++) {
        told.add((long) x.star(s, what));
      }
    }
    for (int w = 0; w < 3; w++) {
      told.add((long) x.walker(w));
    }
    for (int i = 0; i < 8; i++) {
      told.add((long) x.plan(i));
      told.add((long) x.aims(i));
    }
    for (int what = 0; what < 5; what++) {
      told.add((long) x.count(what));
    }
    told.add((long) x.whose());
    told.add((long) x.fits(0));
    told.add((long) x.torn());
  }

  /** What is now, then both images, the fault of the latest text last. */
  private static List<Long> imagesOf(StarWalk x) {
    List<Long> told = new ArrayList<>();
    look(x, told);
    for (int k = 0; k < 2; k++) {
      told.add((long) x.back(k));
      look(x, told);
    }
    told.add((long) x.fault());
    return told;
  }

  /** What the tape tells. */
  private static List<Long> tapeOf(StarWalk x) {
    List<Long> told = new ArrayList<>();
    told.add((long) x.text());
    told.add((long) x.fault());
    look(x, told);
    return told;
  }

  /** Each cell of a sheet, read as of a lane by itself, from the same place each time; SIDE then tells the seven AIMS apart. */
  private static List<Long> sheetsOf(StarWalk x, int k, int lane) {
    List<Long> told = new ArrayList<>();
    x.end(0);
    Check.tell(x, "star 0 9 0;star 0 9 1;star 0 9 2;star 0 9 5;star 0 9 6;");
    x.keep(0);
    for (int i = 0; i <= 40; i++) {
      told.add((long) x.read(k, lane, i, 1));
      told.add((long) x.torn());
      told.add((long) x.rule(10));
      x.back(0);
    }
    return told;
  }

  // ---- states

  private static final String TEXT =
    "star 0 4 5;star 2 9 2;known 1;lame;tired;well 12 4;wind 6;water 50;cloud 3;plan 0 1 5 6;";

  private static StarWalk ordinary() {
    StarWalk x = Check.told(TEXT);
    x.keep(0);
    x.go(0);
    x.set(2, 1);
    x.see(0, x.rule(10) - 1000);
    x.see(8, x.runs(1) - 1000);
    x.keep(1);
    x.turn(1, 6);
    x.know(1, false);
    x.teach(0, 3);
    x.cloud(8, true);
    laid(x);
    Check.feedAll(x, "guide;plan 5 6;");
    return x;
  }

  private static void laid(StarWalk x) {
    for (int k = 0; k < 3; k++) {
      x.sheet(k, k, 5 * k);
      for (int i = 0; i < 5 * k; i++) {
        x.lay(k, i, i % 8);
      }
    }
    x.read(2, 2, 10, 1);
  }

  private static StarWalk faulty() {
    StarWalk x = new StarWalk();
    Check.tell(x, "wind 11;");
    x.keep(1);
    Check.feedAll(x, "tired;known 0");
    return x;
  }

  private static StarWalk full() {
    StarWalk x = Check.told("star 0 9 5;star 0 9 6;lame;plain;guide;wind 10;plan 0 1 5 6 0 1 5 6;");
    for (int i = 0; i < 6; i++) {
      x.see(i, x.rule(10) - 1000 + new int[] {0, 2, 5, 6, 6, 8}[i]);
    }
    x.keep(0);
    x.keep(1);
    x.sheet(0, 1, 40);
    x.lay(0, 39, 5);
    Check.feedAll(x, "plain;" + " ".repeat(148) + "guide;");
    return x;
  }

  private static StarWalk dry() {
    StarWalk x = ordinary();
    x.set(6, 0);
    return x;
  }

  private static StarWalk late() {
    return Check.rested(ordinary(), 9);
  }

  private static StarWalk nobody() {
    StarWalk x = Check.told("wind 10;plan 5 6;star 0 9 3;");
    x.go(0);
    x.sheet(3, 0, 40);
    x.lay(3, 0, 5);
    x.lay(3, 1, 7);
    return x;
  }

  // ---- the test

  private static long held = 0;

  private static void sameAsTwin(String what, List<Long> got, List<Long> want) {
    held++;
    if (!got.equals(want)) {
      Check.isTrue(what + " has changed what there is: " + got + " in place of " + want, false);
    }
  }

  private static void tryAll(String state, Supplier<StarWalk> make) {
    List<Long> images = imagesOf(make.get());
    List<Long> tape = tapeOf(make.get());
    List<List<Long>> sheets = new ArrayList<>();
    for (int k = 0; k < 4; k++) {
      for (int lane = 0; lane < 3; lane++) {
        sheets.add(sheetsOf(make.get(), k, lane));
      }
    }
    for (int call = 0; call < CALLS; call++) {
      int[][] with = tried(call);
      for (int a : with[0]) {
        for (int b : with[1]) {
          for (int c : with[2]) {
            for (int d : with[3]) {
              tryOne(state, make, call, new int[] {a, b, c, d}, images, tape, sheets);
            }
          }
        }
      }
    }
  }

  private static void tryOne(String state, Supplier<StarWalk> make, int call, int[] v, List<Long> images,
      List<Long> tape, List<List<Long>> sheets) {
    StarWalk x = make.get();
    long answer = call(x, call, v[0], v[1], v[2], v[3]);
    if (answer >= 0 && call < FIRST_THAT_ASKS) {
      return;
    }
    String what = state + ": call " + call + " of " + v[0] + ", " + v[1] + ", " + v[2] + ", " + v[3] + ", which answered " + answer + ",";
    sameAsTwin(what, imagesOf(x), images);
    StarWalk y = make.get();
    call(y, call, v[0], v[1], v[2], v[3]);
    sameAsTwin(what, tapeOf(y), tape);
    if (call < 14 || call > 16) {
      return;
    }
    for (int k = 0; k < 4; k++) {
      for (int lane = 0; lane < 3; lane++) {
        if (k == v[0] || k == 0 || k == 3) {
          StarWalk z = make.get();
          call(z, call, v[0], v[1], v[2], v[3]);
          sameAsTwin(what, sheetsOf(z, k, lane), sheets.get(3 * k + lane));
        }
      }
    }
  }

  /** A text with a fault takes the tape away and tells of its fault: all else is as it was. */
  private static void faultyText() {
    Check.says(4, "that which was told stays");
    String[] texts = {"$", "q", "plain", "wind 11;", "plan;plan;", "plain;plain;plain;plain;", "known 0;", "star 0 0 0;plan 1;"};
    for (String text : texts) {
      StarWalk x = ordinary();
      x.end(0);
      Check.isTrue("'" + text + "' is taken", Check.tell(x, text) < 0);
      StarWalk y = ordinary();
      y.end(0);
      List<Long> got = imagesOf(x);
      List<Long> want = imagesOf(y);
      int last = want.size() - 1;
      Check.isTrue("'" + text + "' is a fault", got.get(last) > 0 && want.get(last) == 0);
      sameAsTwin("'" + text + "'", got.subList(0, last), want.subList(0, last));
    }
  }

  public static void main(String[] args) {
    Check.says(0, "what is refused changes nothing (but THE TAPE, as told)");
    tryAll("a new object", StarWalk::new);
    tryAll("an ordinary one", RefusalTest::ordinary);
    tryAll("behind a fault", RefusalTest::faulty);
    tryAll("a full one", RefusalTest::full);
    tryAll("without water", RefusalTest::dry);
    tryAll("at hour 10", RefusalTest::late);
    tryAll("nobody", RefusalTest::nobody);
    faultyText();
    System.out.println(held + " looks held against a twin's");
    Check.finish(4, 4);
  }
}
