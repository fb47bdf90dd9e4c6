import java.math.BigInteger;

// The edges of tracks, the walk by a seed, images and sheets: promises 29 to 41.
public final class EdgeTrackTest {
  private static final int BAD = -1, STATE = -2, FULL = -3, NONE = -4;
  private static final int LEAST = Integer.MIN_VALUE, MOST = Integer.MAX_VALUE;

  private static void due(String what, long got, long want) {
    Check.due(what, got, want);
  }

  private static StarWalk told(String text) {
    return Check.told(text);
  }

  // ---- tracks

  private static void see() {
    Check.says(29, "SEEN: behind n AIMS (0 to 8) SIDE was so much (-99 to 99): how many are. BAD; FULL.");
    Check.takes("n of see", 0, 8, n -> new StarWalk().see(n, 0));
    Check.takes("side of see", -99, 99, side -> new StarWalk().see(0, side));
    Check.says(0, "SEEN (6)");
    StarWalk x = new StarWalk();
    for (int i = 1; i <= 6; i++) {
      due("see", x.see(i, 0), i);
    }
    due("the seventh", x.see(0, 0), FULL);
    due("seen", x.count(1), 6);
    Check.says(0, "the first that fits");
    due("BAD ahead of FULL", x.see(9, 0), BAD);
    due("BAD ahead of FULL", x.see(-1, 0), BAD);
    due("BAD ahead of FULL", x.see(0, 100), BAD);
    due("BAD ahead of FULL", x.see(0, -100), BAD);

    Check.says(30, "SEEN are the first n alone: how many there were. BAD.");
    for (int n = 0; n <= 6; n++) {
      int many = n;
      Check.takes("forget of " + n, 0, n, i -> {
        StarWalk y = new StarWalk();
        for (int s = 0; s < many; s++) {
          y.see(0, 0);
        }
        return y.forget(i);
      });
    }
    due("all stay", x.forget(6), 6);
    due("five stay", x.forget(5), 6);
    due("there is room for one", x.see(8, 0), 6);
    due("and no more", x.see(8, 0), FULL);
    due("one stays", x.forget(1), 6);
    due("none stays", x.forget(0), 1);
    due("none of none", x.forget(0), 0);
    due("one of none", x.forget(1), BAD);
    x = told("wind 10;plan 5;plain;");
    x.see(1, 1);
    x.see(1, 2);
    due("both can not be", x.whose(), 0);
    x.forget(1);
    due("the first stays", x.whose(), 1);
    x.forget(0);
    x.see(1, 2);
    due("what was forgotten is gone", x.whose(), 0);
  }

  private static StarWalk tracked() {
    return told("star 0 9 5;star 0 9 5;star 0 1 3;wind 10;plan 0 1 5;");
  }

  private static void aims() {
    Check.says(31, "AIMS that there are (bits 0 to 6)");
    for (int stars = 0; stars <= 5; stars++) {
      StarWalk x = told("star 0 9 3;".repeat(stars) + "plan 5;");
      due("all that there are, of " + stars + " stars", x.aims(0), (1 << stars) - 1 + 96);
    }
    StarWalk last = told("star 0 9 6;".repeat(4) + "star 0 9 1;plan 5;wind 10;");
    last.see(1, -2);
    due("the fifth star alone", last.aims(0), 16);
    last.forget(0);
    last.see(1, 0);
    due("a rest alone", last.aims(0), 64);
    last.forget(0);
    last.see(1, 1);
    due("by wind alone", last.aims(0), 32);
    for (int side : new int[] {-99, -3, 2, 99}) {
      last.forget(0);
      last.see(1, side);
      due("none makes it " + side, last.aims(0), 0);
    }
    Check.says(31, "in place of the i-th one of THE PLAN");
    for (int n = 1; n <= 8; n++) {
      String plan = "plan" + " 6".repeat(n) + ";";
      Check.takes("aims of " + n, 0, n - 1, i -> told(plan).aims(i));
    }
    due("aims(0) of no plan", new StarWalk().aims(0), BAD);
    StarWalk x = tracked();
    x.see(1, 2);
    due("behind the first: stars 0 and 1", x.aims(0), 3);
    due("ahead of the second all is as it is", x.aims(1), 103);
    x.see(2, 3);
    due("the second is by wind", x.aims(1), 32);
    due("no other first one", x.aims(0), 0);
    due("no other third one", x.aims(2), 0);
    due("the plan is as it was", x.plan(1), 1);
    x = told("wind 10;plan 6 6 6 6 6 6 6 6;");
    x.see(8, 1);
    x.see(7, 0);
    due("the eighth", x.aims(7), 32);
    due("the seventh", x.aims(6), 0);
    Check.says(31, "behind more AIMS than THE PLAN has: as behind its last one");
    for (int n = 0; n <= 8; n++) {
      x = tracked();
      x.see(n, 5);
      due("side 5 behind " + n + ": by wind, or by star 2 that has set", x.aims(2), n < 3 ? 0 : 36);
      x = tracked();
      x.see(n, new int[] {0, 2, 4}[Math.min(n, 2)]);
      due("as it is behind " + n, x.aims(2), n < 3 ? 103 : 64);
    }
    Check.says(0, "behind n AIMS of THE PLAN (0 to 8) SIDE is so much (-99 to 99)");
    x = tracked();
    x.see(0, 0);
    due("behind none it is as now", x.aims(0), 103);
    x.see(0, 1);
    due("and not another", x.aims(0), 0);
    x = told("plan 6 6;water 1;");
    x.see(1, 0);
    x.see(2, 0);
    due("behind one that is passed over it is as before", x.aims(1), 96);
    x = told("wind 10;plan 5 5 5;water 0;");
    x.see(3, 0);
    due("all passed over", x.aims(0), 96);
    six();
  }

  private static void six() {
    Check.says(31, "make all as SEEN");
    for (int odd = 0; odd < 6; odd++) {
      StarWalk x = told("plain;wind 10;plan 5 5 5 5 5;");
      for (int i = 0; i < 6; i++) {
        x.see(i, i == odd ? i + 20 : i);
      }
      due("the one numbered " + odd + " is off", x.whose(), 0);
      due("the one numbered " + odd + " is off", x.fits(0), 0);
      due("the one numbered " + odd + " is off", x.aims(4), 0);
    }
    StarWalk x = told("plain;wind 10;plan 5 5 5 5;");
    for (int i = 0; i < 6; i++) {
      x.see(Math.min(i, 4), Math.min(i, 4));
    }
    due("all six", x.whose(), 1);
    due("all six", x.fits(0), 1);
    due("all six", x.aims(3), 32);
  }

  private static void whose() {
    Check.says(32, "WALKERS (bits) any of whom, in FRONT, makes all as SEEN.");
    due("nobody", new StarWalk().whose(), 0);
    String[] walkers = {"tired;", "tired;plain;", "tired;plain;guide;"};
    for (int n = 1; n <= 3; n++) {
      due("nothing seen", told(walkers[n - 1]).whose(), (1 << n) - 1);
    }
    StarWalk x = Check.rested(told("tired;plain;guide;wind 10;plan 5;"), 5);
    x.see(1, 1);
    due("plain and guide, one less of three", x.whose(), 6);
    x.forget(0);
    x.see(1, 3);
    due("tired", x.whose(), 1);
    x.forget(0);
    x.see(1, 2);
    due("none of them", x.whose(), 0);
    x = told("plain;lame;");
    x.see(8, 0);
    due("no plan, side now", x.whose(), 3);
    x.see(8, 1);
    due("another side", x.whose(), 0);
    x = told("star 0 9 0;plain;lame;plan 0;");
    x.see(1, -3);
    due("to the right", x.whose(), 1);
    due("in front is who was", x.rule(2), 0);
  }

  private static void fitted(StarWalk x, int many, int least) {
    due("fits(0)", x.fits(0), many);
    due("fits(1)", x.fits(1), least);
  }

  private static void fits() {
    Check.says(33, "Sets of STARS that, were just these KNOWN, make all as SEEN: how many (what 0), the least by bits (1).");
    Check.takes("fits", 0, 1, what -> new StarWalk().fits(what));
    for (int stars = 0; stars <= 5; stars++) {
      StarWalk x = told("star 0 9 4;".repeat(stars));
      for (int s = 0; s < stars; s++) {
        x.know(s, true);
      }
      fitted(x, 1 << stars, 0);
      due("known are those that were", x.count(0), stars);
    }
    StarWalk x = told("star 0 9 5;star 0 9 4;star 0 9 2;plan 0 1;known 0;");
    x.see(2, 3);
    fitted(x, 2, 0);
    x.forget(0);
    x.see(2, 2);
    fitted(x, 2, 2);
    x.forget(0);
    x.see(2, 1);
    fitted(x, 2, 1);
    x.forget(0);
    x.see(2, 0);
    fitted(x, 2, 3);
    x = told("star 0 9 4;".repeat(5) + "plan 0 1 2 3 4;");
    x.see(5, 0);
    fitted(x, 1, 31);
    x.forget(0);
    x.see(5, 1);
    fitted(x, 5, 15);
    Check.says(33, "BAD; NONE (1): there is none.");
    x.see(5, 2);
    fitted(x, 0, NONE);
    due("BAD ahead of NONE", x.fits(2), BAD);
    x = new StarWalk();
    fitted(x, 1, 0);
    x.see(0, 1);
    fitted(x, 0, NONE);
  }

  // ---- by a seed

  private static final String SEEDED = "star 0 9 6;star 3 4 0;star 5 8 1;known 1;lame;wind 6;cloud 4;cloud 5;";

  /** MILES and SIDE of SEEDED, the seed held as a whole number of any size. */
  private static int[] drifted(int seed, int n) {
    int[][] stars = {{0, 9, 6, 0}, {3, 4, 0, 1}, {5, 8, 1, 0}};
    BigInteger grown = BigInteger.valueOf(seed);
    int miles = 0;
    int side = 0;
    for (int i = 0; i < n; i++) {
      grown = grown.multiply(BigInteger.valueOf(1103515245)).add(BigInteger.valueOf(12345));
      int aim = grown.shiftRight(16).mod(BigInteger.valueOf(32768)).intValue() % 7;
      int h = i % 10;
      int pull = h < 5 ? 1 : 2;
      if (aim == 6) {
        continue;
      }
      if (aim < 3 && stars[aim][0] <= h && h <= stars[aim][1] && h != 4 && h != 5) {
        miles += 3;
        side += pull + (stars[aim][3] == 1 ? 0 : stars[aim][2] - 3);
      } else {
        miles += h < 6 ? 3 : 2;
        side += h < 6 ? pull + 1 : 2 * pull + 1;
      }
    }
    return new int[] {miles, 1000 + side};
  }

  private static void drift() {
    Check.says(34, "n STEPS (1 to 30) by a seed");
    Check.takes("n of drift", 1, 30, n -> told(SEEDED).drift(1, n, 0));
    Check.takes("what of drift", 0, 1, what -> told(SEEDED).drift(1, 30, what));
    Check.takes("what of drift", 0, 1, what -> new StarWalk().drift(LEAST, 1, what));
    Check.says(34, "as in HOUR 0, 1 and so on modulo 10, no WATER taken");
    int[] seeds = {0, 1, -1, 7, 12345, -12345, 1 << 16, 1 << 30, LEAST, MOST, LEAST + 1, MOST - 1};
    for (int seed : seeds) {
      StarWalk x = told(SEEDED + "water 0;");
      for (int n = 1; n <= 30; n++) {
        int[] want = drifted(seed, n);
        due("drift(" + seed + "," + n + ",0)", x.drift(seed, n, 0), want[0]);
        due("drift(" + seed + "," + n + ",1)", x.drift(seed, n, 1), want[1]);
      }
      Check.at(x, 0, 0, 0, 0);
    }
    Check.says(34, "By itself");
    StarWalk x = told(SEEDED);
    x.go(0);
    x.go(5);
    Check.rested(x, 8);
    due("hour 10", x.go(6), STATE);
    int[] want = drifted(7, 30);
    due("miles gone do not count", x.drift(7, 30, 0), want[0]);
    due("side does not count", x.drift(7, 30, 1), want[1]);
    Check.at(x, 10, 6, 6, 10);
    Check.says(34, "the AIM is bits 16 to 30 of it modulo 7, a STAR that there is not is by WIND");
    aimBySeed();
  }

  /** One step by each of the seven AIMS, without stars and with all five: seeds 0 on are tried for each. */
  private static void aimBySeed() {
    boolean[] met = new boolean[7];
    for (int seed = 0; seed < 200; seed++) {
      int aim = ((seed * 1103515245 + 12345) >> 16 & 0x7fff) % 7;
      if (met[aim]) {
        continue;
      }
      met[aim] = true;
      due("no stars, aim " + aim, told("wind 1;").drift(seed, 1, 0), aim == 6 ? 0 : 3);
      due("no stars, aim " + aim, told("wind 1;").drift(seed, 1, 1), aim == 6 ? 1000 : 1001);
      due("no stars, no wind, aim " + aim, told("wind 0;").drift(seed, 1, 0), aim == 6 ? 0 : 2);
      StarWalk five = told("star 0 0 0;star 0 0 1;star 0 0 2;star 0 0 3;star 0 0 5;wind 1;");
      int[] sides = {-3, -2, -1, 0, 2, 1, 0};
      due("five stars, aim " + aim, five.drift(seed, 1, 1), 1000 + sides[aim]);
    }
    for (int aim = 0; aim < 7; aim++) {
      Check.isTrue("no seed for aim " + aim, met[aim]);
    }
  }

  // ---- images

  private static final String FULLEST =
    "star 0 9 5;star 0 9 5;star 0 9 5;star 0 9 5;star 0 9 5;known 4;lame;tired;guide;well 40 9;wind 10;water 99;"
    + "cloud 9;plan 0 1 2 3 4 5 6 0;";

  private static void isFullest(StarWalk x) {
    int[] want = {5, 3, 2, 40, 9, 10, 98, 512, 1, 3, 1002, 0, 8};
    for (int what = 0; what < want.length; what++) {
      due("rule(" + what + ") of the image", x.rule(what), want[what]);
    }
    for (int s = 0; s < 5; s++) {
      due("from", x.star(s, 0), 0);
      due("to", x.star(s, 1), 9);
      due("off", x.star(s, 2), 5);
      due("known", x.star(s, 3), s == 4 ? 1 : 0);
      due("plan", x.plan(s), s);
    }
    due("the last aim", x.plan(7), 0);
    for (int w = 0; w < 3; w++) {
      due("kind", x.walker(w), w + 1);
    }
    due("seen", x.count(1), 6);
    due("all is as seen with the last in front", x.whose(), 7);
  }

  private static StarWalk fullest() {
    StarWalk x = told(FULLEST);
    x.set(2, 2);
    x.go(0);
    for (int i = 0; i < 6; i++) {
      x.see(0, 2);
    }
    return x;
  }

  private static void images() {
    Check.says(35, "whether there was one (1, 0). BAD.");
    Check.takes("keep", 0, 1, k -> new StarWalk().keep(k));
    StarWalk x = new StarWalk();
    for (int k = 0; k < 2; k++) {
      due("keep(" + k + ")", x.keep(k), 0);
      due("images", x.count(2), k + 1);
      due("keep(" + k + ") again", x.keep(k), 1);
      due("images", x.count(2), k + 1);
    }
    Check.says(36, "All is as IMAGE k: HOUR. BAD; STATE: there is none.");
    Check.takes("back", 0, 1, k -> new StarWalk().back(k));
    due("none", new StarWalk().back(0), STATE);
    due("none", new StarWalk().back(1), STATE);
    x = new StarWalk();
    x.keep(1);
    due("the other is none", x.back(0), STATE);
    due("this is one", x.back(1), 0);
    due("and stays one", x.back(1), 0);
    x = new StarWalk();
    x.keep(0);
    Check.rested(x, 10);
    x.keep(1);
    due("hour 0", x.back(0), 0);
    due("hour", x.rule(8), 0);
    due("hour 10", x.back(1), 10);
    due("hour", x.rule(8), 10);
    x = new StarWalk();
    x.keep(0);
    due("a text takes images away", x.text(), 0);
    due("gone", x.back(0), STATE);
    due("keep", x.keep(0), 0);
    x.feed('q');
    due("a fault does not", x.text(), -10);
    due("still there", x.back(0), 0);
    imageOfAll();
  }

  private static void imageOfAll() {
    Check.says(35, "STARS, WALKERS, FRONT, THE WELL, WIND, WATER, CLOUD, HOUR, MILES, SIDE, THE PLAN, what was SEEN");
    StarWalk x = fullest();
    isFullest(x);
    x.keep(0);
    x.keep(1);
    for (int s = 0; s < 5; s++) {
      x.know(s, s != 4);
      x.turn(s, 0);
    }
    for (int w = 0; w < 3; w++) {
      x.teach(w, 0);
    }
    for (int what = 2; what <= 6; what++) {
      x.set(what, 1);
    }
    x.cloud(9, false);
    x.cloud(0, true);
    x.cut(0);
    x.plans(6);
    x.forget(0);
    x.see(8, 8);
    x.go(0);
    x.keep(1);
    due("back(0)", x.back(0), 1);
    isFullest(x);
    due("back(1)", x.back(1), 2);
    due("a plan of one", x.rule(12), 1);
    due("which is a rest", x.plan(0), 6);
    due("one is seen", x.count(1), 1);
    due("the side", x.rule(10), 1002);
    due("no water", x.rule(6), 0);
    due("back(0)", x.back(0), 1);
    isFullest(x);
    StarWalk y = fullest();
    y.sheet(0, 0, 7);
    Check.feedAll(y, "q");
    due("a text with a fault", y.text(), -10);
    y.keep(0);
    Check.feedAll(y, "plain");
    y.sheet(0, 0, 9);
    y.read(0, 1, 0, 1);
    due("back", y.back(0), 1);
    due("the tape is not of an image", y.count(3), 5);
    due("sheets are not of an image", y.count(4), 9);
    due("nor the fault", y.fault(), 2);
    due("nor what was torn", y.torn(), 3);
    due("nor the images", y.count(2), 1);
  }

  // ---- sheets

  private static void sheet() {
    Check.says(37, "A SHEET is a new row of CELLS 0: 1. BAD: also n above 40; -10 - 4.");
    Check.takes("k of sheet", 0, 3, k -> new StarWalk().sheet(k, 0, 1));
    Check.takes("lane of sheet", 0, 2, lane -> new StarWalk().sheet(0, lane, 1));
    for (int lane = 0; lane < 3; lane++) {
      for (int n = 0; n <= 40; n++) {
        StarWalk x = new StarWalk();
        due("sheet of " + n, x.sheet(0, lane, n), 1);
        due("cells", x.count(4), n);
      }
      int[] above = {41, 42, 1000, MOST};
      for (int n : above) {
        due("sheet of " + n, new StarWalk().sheet(0, lane, n), BAD);
      }
      int[] below = {-1, -2, -41, LEAST};
      for (int n : below) {
        StarWalk x = new StarWalk();
        due("sheet of " + n, x.sheet(0, lane, n), -14);
        due("nothing is made", x.count(4), NONE);
        due("torn() is of read() alone", x.torn(), 0);
        due("no sheet, ahead of SIZE", x.sheet(4, lane, n), BAD);
        due("no sheet, ahead of SIZE", x.sheet(-1, lane, n), BAD);
        due("no lane, ahead of SIZE", x.sheet(0, 3, n), BAD);
        due("no lane, ahead of SIZE", x.sheet(0, -1, n), BAD);
      }
    }
    Check.says(37, "A SHEET is a new row of CELLS 0");
    StarWalk x = told("star 0 9 3;plan;");
    x.sheet(1, 0, 3);
    for (int i = 0; i < 3; i++) {
      x.lay(1, i, 6);
    }
    x.sheet(1, 0, 3);
    due("three cells of 0, all star 0", x.read(1, 0, 0, 3), 3);
    due("miles", x.rule(9), 9);
    x.sheet(1, 2, 1);
    due("of another lane", x.read(1, 0, 0, 1), 0);
    due("torn", x.torn(), 3);
    due("shorter", x.lay(1, 1, 0), -12);
    x.sheet(1, 2, 3);
    due("longer, cells of 0", x.read(1, 2, 0, 3), 3);
    due("miles", x.rule(9), 18);
    Check.says(0, "SHEETS 0 to 3 are rows of BYTES (lane 0), SHORTS (1), INTS (2) with 0 to 40 CELLS, or nothing (at first).");
    x = new StarWalk();
    for (int k = 0; k < 4; k++) {
      due("nothing at first", x.lay(k, 0, 0), -11);
      x.sheet(k, 0, k);
      for (int i = 0; i < k; i++) {
        due("a cell", x.lay(k, i, 0), 1);
      }
      due("no cell", x.lay(k, k, 0), -12);
    }
  }

  private static void lay() {
    Check.says(38, "BAD: k; -10 less the FAULT: NULL, INDEX.");
    Check.takes("k of lay", 0, 3, k -> new StarWalk().lay(k, 0, 0));
    int[] sizes = {0, 1, 2, 39, 40};
    int[] beside = {-1, -2, LEAST, MOST, 1000};
    for (int size : sizes) {
      StarWalk x = new StarWalk();
      x.sheet(3, size % 3, size);
      for (int i = 0; i < size; i++) {
        due("lay " + i + " of " + size, x.lay(3, i, 1), 1);
      }
      for (int i = size; i <= 45; i++) {
        due("lay " + i + " of " + size, x.lay(3, i, 1), -12);
      }
      for (int i : beside) {
        due("lay " + i + " of " + size, x.lay(3, i, 1), -12);
        due("NULL ahead of INDEX", x.lay(2, i, 1), -11);
        due("BAD ahead of NULL", x.lay(4, i, 1), BAD);
        due("BAD ahead of NULL", x.lay(-1, i, 1), BAD);
      }
      due("torn() is of read() alone", x.torn(), 0);
    }
    Check.says(38, "CELL i of a SHEET becomes v (its lowest bits): 1.");
    int[] values = {0, 5, 6, 7, -1, 127, 128, 255, 256, 256 + 5, -256 + 5, -128, 32767, 32768, 32768 + 5, 65535, 65536,
      65536 + 5, -65536 + 6, -65536 - 1, LEAST, LEAST + 5, MOST, MOST - 2, (1 << 24) + 6};
    for (int lane = 0; lane < 3; lane++) {
      for (int v : values) {
        StarWalk x = told("star 0 9 3;");
        x.sheet(2, lane, 2);
        due("lay", x.lay(2, 1, v), 1);
        int held = lane == 0 ? (byte) v : lane == 1 ? (short) v : v;
        boolean isAim = held == 0 || held == 5 || held == 6;
        due(v + " read of lane " + lane, x.read(2, lane, 1, 1), isAim ? 1 : -20);
        due("miles", x.rule(9), isAim && held != 6 ? 3 : 0);
        due("side", x.rule(10), isAim && held == 5 ? 1001 : 1000);
        due("the other cell stays 0", x.read(2, lane, 0, 1), 1);
      }
    }
  }

  /** Ten cells from 30 on of a sheet of forty: rests. */
  private static StarWalk rests(int lane) {
    StarWalk x = told("star 0 9 3;");
    x.sheet(1, lane, 40);
    for (int i = 30; i < 40; i++) {
      x.lay(1, i, 6);
    }
    return x;
  }

  private static void read() {
    Check.says(39, "BAD: k, lane, n");
    Check.takes("k of read", 0, 3, k -> new StarWalk().read(k, 0, 0, 1));
    Check.takes("lane of read", 0, 2, lane -> new StarWalk().read(0, lane, 0, 1));
    Check.takes("n of read", 0, 10, n -> rests(0).read(1, 0, 30, n));
    Check.takes("n of read, on nothing", 0, 10, n -> new StarWalk().read(1, 0, 0, n));
    Check.says(39, "n (0 to 10) times an AIM is read of a SHEET taken as of a lane, a CELL each from CELL f on, one behind another as by go(): how many STEPS.");
    for (int lane = 0; lane < 3; lane++) {
      for (int n = 0; n <= 10; n++) {
        StarWalk x = rests(lane);
        due("read " + n, x.read(1, lane, 30, n), n);
        Check.at(x, n, 0, 0, 20 - n);
        due("torn", x.torn(), 0);
      }
      for (int f = 21; f <= 30; f++) {
        StarWalk x = rests(lane);
        due("read from " + f, x.read(1, lane, f, 10), 10);
        Check.at(x, 10, 3 * (30 - f), 0, 10);
      }
    }
    Check.says(39, "What the machine refuses: those that were whole ahead are (its FAULT is asked by torn()).");
    for (int f = 31; f <= 41; f++) {
      StarWalk x = rests(0);
      due("read from " + f, x.read(1, 0, f, 10), Math.max(0, 40 - f));
      Check.at(x, Math.max(0, 40 - f), 0, 0, 20 - Math.max(0, 40 - f));
      due("INDEX", x.torn(), 2);
    }
    for (int f = 0; f <= 45; f++) {
      StarWalk x = told("star 0 9 3;");
      x.sheet(3, 1, 3);
      due("three cells, read from " + f, x.read(3, 1, f, 10), Math.max(0, 3 - f));
      due("INDEX", x.torn(), 2);
      due("hour", x.rule(8), Math.max(0, 3 - f));
    }
    int[] beside = {-1, -2, -10, LEAST, 40, 41, MOST, MOST - 1};
    for (int f : beside) {
      StarWalk x = rests(0);
      due("read from " + f, x.read(1, 0, f, 10), 0);
      Check.at(x, 0, 0, 0, 20);
      due("INDEX", x.torn(), 2);
    }
    casts();
    refusedByGo();
  }

  private static void casts() {
    Check.says(0, "A FAULT is what the machine finds: 1 NULL (nothing), 2 INDEX, 3 CAST (another lane), 4 SIZE (below 0).");
    for (int lane = 0; lane < 3; lane++) {
      for (int as = 0; as < 3; as++) {
        StarWalk x = rests(lane);
        due("lane " + lane + " as " + as, x.read(1, as, 30, 2), lane == as ? 2 : 0);
        due("torn", x.torn(), lane == as ? 0 : 3);
        due("hour", x.rule(8), lane == as ? 2 : 0);
        due("CAST ahead of INDEX", x.read(1, as, -1, 2), 0);
        due("torn", x.torn(), lane == as ? 2 : 3);
        due("nothing", x.read(0, as, -1, 2), 0);
        due("NULL", x.torn(), 1);
        x.sheet(2, lane, 0);
        due("no cells", x.read(2, as, 0, 1), 0);
        due("torn", x.torn(), lane == as ? 2 : 3);
      }
    }
  }

  private static void refusedByGo() {
    Check.says(39, "-20 less i: the i-th is refused by go() (in whichever way): then none is");
    int[] noAims = {1, 4, 7, -1};
    for (int i = 0; i < 10; i++) {
      for (int aim : noAims) {
        StarWalk x = rests(0);
        x.lay(1, 30 + i, aim);
        due("BAD as the one numbered " + i, x.read(1, 0, 30, 10), -20 - i);
        Check.at(x, 0, 0, 0, 20);
        due("those ahead alone", x.read(1, 0, 30, i), i);
        due("hour", x.rule(8), i);
      }
      StarWalk dry = rests(0);
      dry.set(6, i);
      due("no water for the one numbered " + i, dry.read(1, 0, 30, 10), -20 - i);
      Check.at(dry, 0, 0, 0, i);
      StarWalk late = Check.rested(rests(0), 10 - i);
      due("hour 10 for the one numbered " + i, late.read(1, 0, 30, 10), -20 - i);
      Check.at(late, 10 - i, 0, 0, 10 + i);
    }
    Check.says(39, "the first met");
    StarWalk x = rests(0);
    x.lay(1, 39, 7);
    due("no aim, then INDEX", x.read(1, 0, 38, 3), -21);
    due("hour", x.rule(8), 0);
    due("torn by none yet", x.torn(), 0);
    x.lay(1, 39, 6);
    x.set(6, 2);
    due("INDEX ahead of no water", x.read(1, 0, 38, 4), 2);
    due("torn", x.torn(), 2);
    x.set(6, 0);
    due("no water, then INDEX", x.read(1, 0, 39, 2), -20);
    due("INDEX at once, no water", x.read(1, 0, 40, 2), 0);
    due("NULL, no water", x.read(0, 0, 0, 1), 0);
    due("torn", x.torn(), 1);
    due("CAST, no water", x.read(1, 1, 30, 1), 0);
    due("torn", x.torn(), 3);
    due("no time at all, no water", x.read(1, 0, 30, 0), 0);
    due("torn", x.torn(), 0);
  }

  private static void torn() {
    Check.says(40, "The FAULT of the latest read() that came to an end; 0.");
    StarWalk x = rests(0);
    due("nothing", x.read(0, 0, 0, 1), 0);
    due("NULL", x.torn(), 1);
    int[][] bad = {{-1, 0, 30, 1}, {4, 0, 30, 1}, {1, -1, 30, 1}, {1, 3, 30, 1}, {1, 0, 30, -1}, {1, 0, 30, 11}};
    for (int[] b : bad) {
      due("BAD", x.read(b[0], b[1], b[2], b[3]), BAD);
      due("torn() stays", x.torn(), 1);
    }
    x.lay(1, 0, 7);
    due("refused by go()", x.read(1, 0, 0, 1), -20);
    due("torn() stays", x.torn(), 1);
    due("SIZE", x.sheet(0, 0, -1), -14);
    due("INDEX of lay()", x.lay(1, 40, 0), -12);
    due("torn() stays", x.torn(), 1);
    due("a whole one", x.read(1, 0, 30, 1), 1);
    due("torn() by none", x.torn(), 0);
    due("another lane", x.read(1, 2, 30, 1), 0);
    due("CAST", x.torn(), 3);
    due("behind the last", x.read(1, 0, 40, 1), 0);
    due("INDEX", x.torn(), 2);
    due("a text stays out of it", x.text(), 0);
    due("torn()", x.torn(), 2);
    due("no time at all", x.read(1, 0, 0, 0), 0);
    due("torn()", x.torn(), 0);
  }

  private static void count() {
    Check.says(41, "0 STARS that are KNOWN, 1 SEEN, 2 IMAGES, 3 bytes on THE TAPE, 4 CELLS of SHEET 0 (NONE: nothing). BAD.");
    Check.takes("count", 0, 4, what -> new StarWalk().count(what));
    StarWalk x = told("star 0 0 0;".repeat(5));
    for (int s = 0; s <= 5; s++) {
      due("known", x.count(0), s);
      x.know(s, true);
    }
    for (int i = 0; i <= 6; i++) {
      due("seen", x.count(1), i);
      x.see(0, 0);
    }
    due("seen at most", x.count(1), 6);
    for (int k = 0; k <= 2; k++) {
      due("images", x.count(2), k);
      x.keep(k);
    }
    due("images at most", x.count(2), 2);
    StarWalk y = new StarWalk();
    y.keep(1);
    due("the second image alone", y.count(2), 1);
    for (int i = 0; i <= 160; i++) {
      due("bytes", y.count(3), i);
      y.feed(' ');
    }
    due("bytes at most", y.count(3), 160);
    due("nothing", y.count(4), NONE);
    for (int k = 1; k < 4; k++) {
      y.sheet(k, 0, 5);
      due("of sheet 0 alone", y.count(4), NONE);
    }
    y.sheet(0, 1, 0);
    due("no cells are not nothing", y.count(4), 0);
    y.sheet(0, 2, 40);
    due("cells at most", y.count(4), 40);
  }

  public static void main(String[] args) {
    see();
    aims();
    whose();
    fits();
    drift();
    images();
    sheet();
    lay();
    read();
    torn();
    count();
    Check.finish(29, 41);
  }
}
