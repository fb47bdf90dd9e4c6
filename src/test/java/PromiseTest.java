// Each promise of the document, with answers worked out by hand: ordinary inputs, edges, wrong inputs.
public final class PromiseTest {
  private static final int BAD = -1, STATE = -2, FULL = -3, NONE = -4;
  private static int wrong = 0;
  private static int asked = 0;
  private static int promise = 0;

  private static void due(String what, long got, long want) {
    asked++;
    if (got != want) {
      wrong++;
      System.out.println("promise " + promise + ": " + what + " answered " + got + ", due is " + want);
    }
  }

  private static void feedAll(StarWalk x, String text) {
    for (int i = 0; i < text.length(); i++) {
      x.feed(text.charAt(i));
    }
  }

  private static int tell(StarWalk x, String text) {
    feedAll(x, text);
    return x.text();
  }

  private static StarWalk told(String text) {
    StarWalk x = new StarWalk();
    int lines = tell(x, text);
    if (lines < 0) {
      due("text of '" + text + "' is taken", lines, 0);
    }
    return x;
  }

  /** One text on a new object: its answer and its fault. */
  private static void reads(String text, int answer, int fault) {
    StarWalk x = new StarWalk();
    due("text() of '" + text + "'", tell(x, text), answer);
    due("fault() of '" + text + "'", x.fault(), fault);
    due("tape behind '" + text + "'", x.count(3), 0);
  }

  private static void newObject() {
    promise = 1;
    StarWalk x = new StarWalk();
    int[] first = {0, 0, 0, 20, 2, 3, 20, 0, 0, 0, 1000, 0, 0};
    for (int what = 0; what < first.length; what++) {
      due("rule(" + what + ")", x.rule(what), first[what]);
    }
    int[] counts = {0, 0, 0, 0, NONE};
    for (int what = 0; what < counts.length; what++) {
      due("count(" + what + ")", x.count(what), counts[what]);
    }
    due("fault()", x.fault(), 0);
    due("torn()", x.torn(), 0);
    for (int k = 0; k < 4; k++) {
      due("lay on nothing", x.lay(k, 0, 1), -11);
    }
    due("back(0)", x.back(0), STATE);
    due("back(1)", x.back(1), STATE);
  }

  private static void feed() {
    promise = 2;
    StarWalk x = new StarWalk();
    due("feed(-1)", x.feed(-1), BAD);
    due("feed(128)", x.feed(128), BAD);
    for (int i = 1; i <= 160; i++) {
      due("feed " + i, x.feed(i == 1 ? 0 : i == 2 ? 127 : 32), i);
    }
    due("feed(32) on a full tape", x.feed(32), FULL);
    due("feed(128) on a full tape", x.feed(128), BAD);
    due("count(3)", x.count(3), 160);
  }

  private static void end() {
    promise = 3;
    StarWalk x = new StarWalk();
    due("end(1) of none", x.end(1), BAD);
    due("end(0) of none", x.end(0), 0);
    feedAll(x, "plain;lame;");
    due("end(-1)", x.end(-1), BAD);
    due("end(12)", x.end(12), BAD);
    due("end(11)", x.end(11), 11);
    due("end(6)", x.end(6), 11);
    due("count(3)", x.count(3), 6);
    due("text()", x.text(), 1);
    due("walker(0)", x.walker(0), 0);
    due("walker(1)", x.walker(1), BAD);
  }

  private static void text() {
    promise = 4;
    reads("", 0, 0);
    reads("   ", 0, 0);
    reads(" ".repeat(160), 0, 0);
    reads(" ".repeat(154) + "plain;", 1, 0);
    reads("plain;", 1, 0);
    reads("plain ; ", 1, 0);
    reads("star0 9 6;star9 9 0;well40 9;wind10;water99;cloud0;cloud9;known1;plan;", 9, 0);
    reads("known 1;plan 1 0;star 0 0 0;star 00 09 06;", 4, 0);
    reads("plan 0;star 1 1 1;", 2, 0);
    reads("plan0 0 0 0 0 0 0 0;star 1 1 1;", 2, 0);
    StarWalk x = told("star 1 2 4;lame;tired;well 30 5;wind 7;water 8;cloud 4;plan 0 5 6;known 0;");
    x.set(2, 1);
    x.go(6);
    x.go(0);
    x.see(0, 0);
    x.keep(0);
    x.keep(1);
    due("a text with a fault", tell(x, "plain;nobody;"), -16);
    int[] stays = {1, 2, 1, 30, 5, 7, 6, 16, 2, 3, 1001, 0, 3};
    for (int what = 0; what < stays.length; what++) {
      due("rule(" + what + ") stays", x.rule(what), stays[what]);
    }
    due("star(0,3) stays", x.star(0, 3), 1);
    due("seen stays", x.count(1), 1);
    due("images stay", x.count(2), 2);
    x.sheet(0, 1, 7);
    due("a text that is taken", tell(x, "guide;"), 1);
    int[] afresh = {0, 1, 0, 20, 2, 3, 20, 0, 0, 0, 1000, 0, 0};
    for (int what = 0; what < afresh.length; what++) {
      due("rule(" + what + ") afresh", x.rule(what), afresh[what]);
    }
    due("nothing is known", x.count(0), 0);
    due("nothing is seen", x.count(1), 0);
    due("images are gone", x.count(2), 0);
    due("back(0)", x.back(0), STATE);
    due("the sheet stays", x.count(4), 7);
    due("one well each", tell(x, "well 1 1;wind 1;water 1;plan;"), 4);
    due("and again in another text", tell(x, "well 2 2;wind 2;water 2;plan 5;"), 4);
    due("the well is the latest", x.rule(3), 2);
    due("an empty text", x.text(), 0);
    due("nobody is told", x.rule(1), 0);
  }

  private static void fault() {
    promise = 5;
    reads("A", -10, 1);
    reads("  -1", -12, 1);
    reads("plain;\t", -16, 1);
    reads("star 123 1 1;", -15, 1);
    reads("known 0;known 1000;", -24, 1);
    reads("1".repeat(160), -10, 1);
    reads("foo $", -10, 2);
    reads("a".repeat(160), -10, 2);
    reads("plain" + " ".repeat(155), -170, 2);
    reads("plain $", -16, 1);
    reads(";", -10, 2);
    reads("7", -10, 2);
    reads("stars 1 1 1;", -10, 2);
    reads("ztar 1 1 1;", -10, 2);
    reads("plaiz;", -10, 2);
    reads("plainlame;", -10, 2);
    reads("plain", -15, 2);
    reads("plain  ", -17, 2);
    reads("plain lame;", -16, 2);
    reads("plain 1;", -16, 2);
    reads("star", -14, 2);
    reads("star star", -15, 2);
    reads("star 1 1 1 1;", -21, 2);
    reads("plan 1 a;", -17, 2);
    reads("plan 1", -16, 2);
    reads("well 5;", -16, 2);
    reads("star 10 1 1;", -15, 3);
    reads("star 5 4 1;", -17, 3);
    reads("star 5 10 1;", -17, 3);
    reads("star 5 5 7;", -19, 3);
    reads("known 5;", -16, 3);
    reads("known 4;", -18, 6);
    reads("well 0 1;", -15, 3);
    reads("well 41 1;", -15, 3);
    reads("well 1 10;", -17, 3);
    reads("wind 11;", -15, 3);
    reads("cloud 10;", -16, 3);
    reads("plan 7;", -15, 3);
    reads("well 1 1;well 1 1;", -19, 4);
    reads("wind 1;wind 1;", -17, 4);
    reads("water 1;  water", -20, 4);
    reads("plan;plan;", -15, 4);
    reads("known 1;known 1;", -24, 4);
    reads("cloud 1;cloud 01;", -24, 4);
    String five = "star 1 1 1;star 1 1 1;star 1 1 1;star 1 1 1;star 1 1 1;";
    reads(five, 5, 0);
    reads(five + "star", -65, 5);
    reads("plain;lame;tired;", 3, 0);
    reads("plain;lame;tired;guide", -27, 5);
    reads("plain;lame;tired;plain;", -27, 5);
    reads("plan 5 5 5 5 6 6 6 6;", 1, 0);
    reads("plan 5 5 5 5 6 6 6 6 5", -31, 5);
    reads("plan 5 5 5 5 6 6 6 6 7;", -31, 3);
    reads("known 0; ", -19, 6);
    reads("star 1 1 1;known 1;", -29, 6);
    reads("plan 0;", -17, 6);
    reads("star 1 1 1;plan 1;", -28, 6);
    reads("known 0; $", -19, 1);
    StarWalk x = new StarWalk();
    tell(x, "$");
    due("fault()", x.fault(), 1);
    x.feed('x');
    due("fault() of the latest text", x.fault(), 1);
    x.end(0);
    x.text();
    due("fault() behind a good text", x.fault(), 0);
  }

  private static void ruleStarWalkerPlan() {
    StarWalk x = told("star 1 4 6;star 3 9 0;known 1;plain;lame;guide;well 6 9;wind 0;water 7;cloud 0;cloud 9;plan 6 1 5;");
    promise = 6;
    due("rule(-1)", x.rule(-1), BAD);
    due("rule(13)", x.rule(13), BAD);
    int[] rules = {2, 3, 0, 6, 9, 0, 7, 513, 0, 0, 1000, 0, 3};
    for (int what = 0; what < rules.length; what++) {
      due("rule(" + what + ")", x.rule(what), rules[what]);
    }
    x.cloud(0, false);
    x.turn(0, 0);
    x.go(6);
    x.go(0);
    x.go(0);
    due("rule(9)", x.rule(9), 6);
    due("rule(10)", x.rule(10), 994);
    due("rule(11): 6 miles, 6 to the right", x.rule(11), 1);
    x.set(4, 5);
    due("rule(11): too far to the right", x.rule(11), 0);
    x.set(4, 6);
    due("rule(11): just broad enough", x.rule(11), 1);
    x.set(3, 7);
    due("rule(11): a mile short", x.rule(11), 0);
    promise = 7;
    due("star(-1,0)", x.star(-1, 0), BAD);
    due("star(2,0)", x.star(2, 0), BAD);
    due("star(0,-1)", x.star(0, -1), BAD);
    due("star(0,4)", x.star(0, 4), BAD);
    due("star(1,0)", x.star(1, 0), 3);
    due("star(1,1)", x.star(1, 1), 9);
    due("star(1,2)", x.star(1, 2), 0);
    due("star(1,3)", x.star(1, 3), 1);
    due("star(0,1)", x.star(0, 1), 4);
    due("star(0,3)", x.star(0, 3), 0);
    promise = 8;
    due("walker(-1)", x.walker(-1), BAD);
    due("walker(3)", x.walker(3), BAD);
    due("walker(0)", x.walker(0), 0);
    due("walker(1)", x.walker(1), 1);
    due("walker(2)", x.walker(2), 3);
    promise = 9;
    due("plan(-1)", x.plan(-1), BAD);
    due("plan(3)", x.plan(3), BAD);
    due("plan(0)", x.plan(0), 6);
    due("plan(1)", x.plan(1), 1);
    due("plan(2)", x.plan(2), 5);
  }

  private static void changes() {
    promise = 10;
    StarWalk x = told("plain;tired;");
    int[][] bounds = {{2, 0, 1}, {3, 1, 40}, {4, 0, 9}, {5, 0, 10}, {6, 0, 99}};
    for (int[] b : bounds) {
      int was = x.rule(b[0]);
      due("set below", x.set(b[0], b[1] - 1), BAD);
      due("set above", x.set(b[0], b[2] + 1), BAD);
      due("stays", x.rule(b[0]), was);
      due("set least", x.set(b[0], b[1]), was);
      due("set most", x.set(b[0], b[2]), b[1]);
      due("is most", x.rule(b[0]), b[2]);
    }
    due("set(1,1)", x.set(1, 1), BAD);
    due("set(7,1)", x.set(7, 1), BAD);
    due("nobody in front", new StarWalk().set(2, 0), BAD);
    promise = 11;
    due("cloud(-1)", x.cloud(-1, true), BAD);
    due("cloud(10)", x.cloud(10, true), BAD);
    due("cloud(9)", x.cloud(9, true), 0);
    due("cloud(9)", x.cloud(9, true), 1);
    due("cloud(0)", x.cloud(0, true), 0);
    due("bits", x.rule(7), 513);
    due("cloud(9) off", x.cloud(9, false), 1);
    due("cloud(9) off", x.cloud(9, false), 0);
    due("bits", x.rule(7), 1);
    promise = 12;
    x = told("star 0 5 1;star 0 5 5;plain;lame;");
    due("know(-1)", x.know(-1, true), BAD);
    due("know(2)", x.know(2, true), BAD);
    due("know(1)", x.know(1, true), 0);
    due("know(1)", x.know(1, true), 1);
    due("star(1,3)", x.star(1, 3), 1);
    due("star(0,3)", x.star(0, 3), 0);
    due("know(1) off", x.know(1, false), 1);
    due("know(1) off", x.know(1, false), 0);
    promise = 13;
    due("turn(-1)", x.turn(-1, 3), BAD);
    due("turn(2)", x.turn(2, 3), BAD);
    due("turn(0,-1)", x.turn(0, -1), BAD);
    due("turn(0,7)", x.turn(0, 7), BAD);
    due("turn(0,6)", x.turn(0, 6), 1);
    due("turn(0,0)", x.turn(0, 0), 6);
    due("star(0,2)", x.star(0, 2), 0);
    promise = 14;
    due("teach(-1)", x.teach(-1, 0), BAD);
    due("teach(2)", x.teach(2, 0), BAD);
    due("teach(0,-1)", x.teach(0, -1), BAD);
    due("teach(0,4)", x.teach(0, 4), BAD);
    due("teach(1,3)", x.teach(1, 3), 1);
    due("teach(1,0)", x.teach(1, 0), 3);
    due("walker(1)", x.walker(1), 0);
    promise = 15;
    due("plans(-1)", x.plans(-1), BAD);
    due("plans(7)", x.plans(7), BAD);
    due("plans(2): no such star", x.plans(2), BAD);
    for (int i = 1; i <= 8; i++) {
      due("plans", x.plans(i % 2 == 0 ? 1 : 5 + i % 3 / 2), i);
    }
    due("plans when full", x.plans(5), FULL);
    due("plans(7) when full", x.plans(7), BAD);
    due("rule(12)", x.rule(12), 8);
    promise = 16;
    due("cut(-1)", x.cut(-1), BAD);
    due("cut(9)", x.cut(9), BAD);
    due("cut(8)", x.cut(8), 8);
    due("cut(2)", x.cut(2), 8);
    due("cut(3)", x.cut(3), BAD);
    due("plan(1)", x.plan(1), 1);
    due("plan(2)", x.plan(2), BAD);
    due("cut(0)", x.cut(0), 2);
    due("rule(12)", x.rule(12), 0);
  }

  private static void pullAndUp() {
    promise = 17;
    int[][] pulls = {
      {0, 0, 0, 0, 0, 1, 1, 1, 1, 1},
      {1, 1, 1, 1, 1, 2, 2, 2, 2, 2},
      {1, 1, 1, 1, 2, 3, 3, 3, 4, 4},
      {0, 0, 0, 0, 0, 1, 1, 1, 1, 1}};
    StarWalk one = told("plain;");
    StarWalk two = told("plain;plain;");
    StarWalk three = told("plain;plain;plain;");
    two.set(2, 1);
    three.set(2, 2);
    for (int kind = 0; kind < 4; kind++) {
      one.teach(0, kind);
      two.teach(1, kind);
      three.teach(2, kind);
      for (int h = 0; h < 10; h++) {
        due("pull of one, kind " + kind, one.pull(h), pulls[kind][h]);
        due("pull of two, kind " + kind, two.pull(h), pulls[kind][h]);
        due("pull of three, kind " + kind, three.pull(h), Math.max(0, pulls[kind][h] - 1));
        due("pull of nobody", new StarWalk().pull(h), 0);
      }
    }
    due("pull(-1)", one.pull(-1), BAD);
    due("pull(10)", one.pull(10), BAD);
    promise = 18;
    StarWalk x = told("star 0 9 3;star 2 4 3;star 4 4 3;cloud 3;");
    int[] up = {1, 1, 3, 0, 7, 1, 1, 1, 1, 1};
    for (int h = 0; h < 10; h++) {
      due("up(" + h + ")", x.up(h), up[h]);
    }
    due("no star", new StarWalk().up(0), 0);
    due("up(-1)", x.up(-1), BAD);
    due("up(10)", x.up(10), BAD);
  }

  private static void at(StarWalk x, int hour, int miles, int side, int water) {
    due("hour", x.rule(8), hour);
    due("miles", x.rule(9), miles);
    due("side", x.rule(10), 1000 + side);
    due("water", x.rule(6), water);
  }

  private static void go() {
    promise = 19;
    StarWalk x = told("star 0 1 6;star 1 9 0;known 1;lame;wind 4;cloud 2;water 11;");
    due("go(-1)", x.go(-1), BAD);
    due("go(7)", x.go(7), BAD);
    due("go(2): no such star", x.go(2), BAD);
    at(x, 0, 0, 0, 11);
    due("go(0): up, not known", x.go(0), 3);
    at(x, 1, 3, 4, 10);
    due("go(1): up, known", x.go(1), 6);
    at(x, 2, 6, 5, 9);
    due("go(1): cloud, by wind", x.go(1), 9);
    at(x, 3, 9, 7, 8);
    due("go(5): by wind", x.go(5), 12);
    at(x, 4, 12, 9, 7);
    due("go(5): blind", x.go(5), 14);
    at(x, 5, 14, 12, 5);
    due("go(0): set, blind", x.go(0), 16);
    at(x, 6, 16, 17, 3);
    due("go(6): a rest", x.go(6), 16);
    at(x, 7, 16, 17, 2);
    x.know(1, false);
    due("go(1): to the right", x.go(1), 19);
    at(x, 8, 19, 16, 1);
    due("go(0): blind with the last of the water", x.go(0), 21);
    at(x, 9, 21, 21, 0);
    due("go(1) without water", x.go(1), STATE);
    due("go(6) without water", x.go(6), STATE);
    due("go(2) without water", x.go(2), BAD);
    at(x, 9, 21, 21, 0);
    x.set(6, 9);
    due("go(6)", x.go(6), 21);
    due("go(6) at hour 10", x.go(6), STATE);
    due("go(5) at hour 10", x.go(5), STATE);
    at(x, 10, 21, 21, 8);
    x = told("tired;plain;plain;wind 0;");
    due("go(5): of three, blind", x.go(5), 2);
    at(x, 1, 2, 1, 18);
    x = new StarWalk();
    due("go(5): nobody", x.go(5), 3);
    at(x, 1, 3, 1, 19);
  }

  private static void runs() {
    promise = 20;
    StarWalk x = told("star 0 9 3;lame;wind 2;water 6;well 9 3;cloud 2;cloud 3;plan 0 5 5 6 0 0;");
    int[] want = {11, 1007, 0, 5, 1, 0, 5};
    for (int what = 0; what < want.length; what++) {
      due("runs(" + what + ")", x.runs(what), want[what]);
    }
    x.set(6, 8);
    int[] more = {14, 1009, 1, 6, 1, 0, NONE};
    for (int what = 0; what < more.length; what++) {
      due("runs(" + what + ") with more water", x.runs(what), more[what]);
    }
    x.set(4, 9);
    due("runs(5)", x.runs(5), 1);
    due("runs(-1)", x.runs(-1), BAD);
    due("runs(7)", x.runs(7), BAD);
    at(x, 0, 0, 0, 8);
    x.cut(1);
    x.go(0);
    x.go(6);
    due("from now on", x.runs(0), 5);
    due("from now on", x.runs(3), 3);
    x.set(6, 0);
    due("passed over", x.runs(0), 3);
    due("the first that can not be", x.runs(6), 0);
    x.cut(0);
    due("no plan", x.runs(6), NONE);
  }

  private static void next() {
    promise = 21;
    StarWalk x = told("star 0 0 2;star 0 0 4;star 0 2 3;wind 2;");
    due("nearest of all", x.next(), 2);
    x.know(0, true);
    due("of several the first", x.next(), 0);
    x.know(0, false);
    x.turn(2, 0);
    due("side -1 before side 1", x.next(), 0);
    x.go(0);
    due("by wind, as the star is not up: the first", x.next(), 0);
    x.go(0);
    due("0 and a blind hour for the first", x.next(), 0);
    x = told("star 0 0 4;plain;wind 0;");
    due("as near, but more miles", x.next(), 0);
    x = told("star 1 1 3;star 0 0 4;wind 0;");
    due("blind 1, seen 1: most miles", x.next(), 1);
    x.set(6, 0);
    due("no water", x.next(), STATE);
    x = told("star 0 9 6;star 0 9 3;wind 10;");
    for (int i = 0; i < 10; i++) {
      x.go(6);
    }
    due("hour 10", x.next(), STATE);
    due("no star", new StarWalk().next(), 5);
    due("by wind rather than a star far off", told("star 0 0 6;").next(), 5);
  }

  private static void best() {
    promise = 22;
    StarWalk x = told("star 0 0 5;star 1 1 1;star 2 2 3;wind 0;");
    due("best(3,0)", x.best(3, 0), 1000);
    due("best(3,1)", x.best(3, 1), 9);
    due("best(3,10)", x.best(3, 10), 0);
    due("best(3,11)", x.best(3, 11), 1);
    due("best(3,12)", x.best(3, 12), 2);
    due("best(3,13)", x.best(3, 13), NONE);
    due("best(0,0)", x.best(0, 0), 1000);
    due("best(0,1)", x.best(0, 1), 0);
    due("best(0,10)", x.best(0, 10), NONE);
    due("best(4,1): blind, back, straight, blind", x.best(4, 1), 10);
    due("best(4,10)", x.best(4, 10), 1);
    due("best(4,11)", x.best(4, 11), 1);
    due("best(4,12)", x.best(4, 12), 2);
    due("best(4,13)", x.best(4, 13), 0);
    due("best(4,14)", x.best(4, 14), NONE);
    due("best(5,0)", x.best(5, 0), BAD);
    due("best(-1,0)", x.best(-1, 0), BAD);
    due("best(1,-1)", x.best(1, -1), BAD);
    due("best(1,2)", x.best(1, 2), BAD);
    due("best(1,9)", x.best(1, 9), BAD);
    at(x, 0, 0, 0, 20);
    x.set(6, 1);
    due("passed over behind the first", x.best(3, 0), 1000);
    due("a rest is nearest", x.best(3, 10), 6);
    due("then the first by numbers", x.best(3, 11), 0);
    x.set(6, 0);
    due("none can be", x.best(4, 13), 0);
    x = told("water 0;");
    due("none can be, no star", x.best(2, 11), 5);
    x = told("star 0 0 6;star 1 1 2;star 2 2 0;wind 0;");
    x.go(0);
    due("3 to the left, one hand back", x.best(1, 0), 1002);
    due("3 to the left, all back", x.best(3, 0), 1000);
    due("one hand back, three, then blind", x.best(3, 1), 11);
    due("miles gone count", x.best(1, 1), 6);
    x = told("star 0 0 1;");
    x.go(0);
    due("to the right, by wind", x.best(1, 0), 999);
  }

  private static void frontLessonsThirst() {
    promise = 23;
    StarWalk x = told("lame;tired;plain;plan 5 5;wind 10;");
    due("front(0)", x.front(0), 0);
    due("front(1)", x.front(1), 1002);
    x.teach(2, 3);
    x.teach(0, 2);
    for (int i = 0; i < 4; i++) {
      x.go(6);
    }
    due("front(0): lame or tired pull more", x.front(0), 2);
    due("front(1)", x.front(1), 1002);
    due("in front is who was", x.rule(2), 0);
    due("front(-1)", x.front(-1), BAD);
    due("front(2)", x.front(2), BAD);
    due("nobody", new StarWalk().front(0), NONE);
    due("nobody", new StarWalk().front(1), NONE);
    due("nobody, BAD first", new StarWalk().front(2), BAD);
    promise = 24;
    x = told("star 0 9 6;star 0 9 6;star 0 9 0;well 20 3;plan 0 1 0 2;");
    due("lessons(0)", x.lessons(0), 1);
    due("lessons(1)", x.lessons(1), 1);
    x.set(4, 0);
    due("lessons(0): 0 known leaves 0", x.lessons(1), 1);
    x.turn(2, 6);
    due("all three", x.lessons(0), 3);
    due("all three", x.lessons(1), 7);
    x.know(1, true);
    due("two more", x.lessons(0), 2);
    due("two more", x.lessons(1), 5);
    x.know(0, true);
    x.know(2, true);
    due("none is needed", x.lessons(0), 0);
    due("none is needed", x.lessons(1), 0);
    x.plans(5);
    due("by none", x.lessons(0), NONE);
    due("by none", x.lessons(1), NONE);
    due("lessons(2)", x.lessons(2), BAD);
    due("lessons(-1)", x.lessons(-1), BAD);
    x = told("star 0 9 4;star 0 9 4;well 1 1;plan 0 1;");
    due("the least of several", x.lessons(1), 1);
    promise = 25;
    x = told("wind 2;plan 5 5 5 6 5;");
    due("thirst(): 1 1 2 1 and one for the last", x.thirst(), 6);
    x.set(6, 0);
    due("whatever there is", x.thirst(), 6);
    x.cut(4);
    due("thirst()", x.thirst(), 5);
    x.cut(0);
    due("no aim", x.thirst(), 0);
    x.set(6, 20);
    for (int i = 0; i < 9; i++) {
      x.go(6);
    }
    x.plans(5);
    due("one hour more", x.thirst(), 1);
    x.plans(5);
    due("hour 10: by none", x.thirst(), NONE);
  }

  private static void weatherLuckMean() {
    promise = 26;
    StarWalk x = told("star 0 9 3;wind 0;well 6 0;plan 0 0;cloud 1;cloud 7;");
    due("weather(): hour 1 clear", x.weather(), 2);
    x.cloud(1, false);
    due("weather(): they are", x.weather(), 0);
    x.set(3, 5);
    x.set(4, 1);
    x.cloud(0, true);
    due("weather(): they are", x.weather(), 0);
    x.turn(0, 1);
    due("weather(): 1 - 2 is within", x.weather(), 0);
    x.cloud(0, false);
    due("weather(): cloud in either hour", x.weather(), 3);
    x.go(6);
    due("weather(): hours to come alone", x.weather(), 6);
    due("clouds are as they were", x.rule(7), 128);
    promise = 27;
    x = told("star 0 9 3;wind 0;well 6 0;plan 0 0;cloud 1;");
    due("luck(0,0)", x.luck(0, 0), 1);
    due("luck(0,1)", x.luck(0, 1), 1);
    due("luck(10,0)", x.luck(10, 0), 0);
    due("luck(10,1)", x.luck(10, 1), 1);
    due("luck(4,0)", x.luck(4, 0), 9);
    due("luck(4,1)", x.luck(4, 1), 25);
    due("luck(-1,0)", x.luck(-1, 0), BAD);
    due("luck(11,0)", x.luck(11, 0), BAD);
    due("luck(5,-1)", x.luck(5, -1), BAD);
    due("luck(5,2)", x.luck(5, 2), BAD);
    x.cut(0);
    due("no plan", x.luck(5, 0), 0);
    due("no plan", x.luck(5, 1), 1);
    due("clouds are as they were", x.rule(7), 2);
    x = told("star 0 9 3;wind 0;well 20 9;plan 0 0 0 0 0 0 0 0;");
    due("four clouds of eight at most", x.luck(1, 0), 19991367);
    due("four clouds of eight at most", x.luck(1, 1), 20000000);
    x = told("star 0 9 3;wind 0;well 3 0;water 1;plan 0 0;");
    due("no water for the second", x.luck(3, 0), 7);
    due("no water for the second", x.luck(3, 1), 10);
    promise = 28;
    x = told("star 0 9 3;wind 0;well 6 0;plan 0 6 0;cloud 1;");
    due("mean(0,0)", x.mean(0, 0), 6);
    due("mean(0,1)", x.mean(0, 1), 1);
    due("mean(10,0)", x.mean(10, 0), 4);
    due("mean(3,0)", x.mean(3, 0), 27);
    due("mean(3,1)", x.mean(3, 1), 5);
    x.go(0);
    due("with what is gone", x.mean(3, 0), 42);
    due("with what is gone", x.mean(3, 1), 5);
    due("mean(-1,0)", x.mean(-1, 0), BAD);
    due("mean(11,1)", x.mean(11, 1), BAD);
    due("mean(1,2)", x.mean(1, 2), BAD);
    due("mean(1,-1)", x.mean(1, -1), BAD);
    x = new StarWalk();
    due("nothing gone", x.mean(5, 0), 0);
    due("nothing gone", x.mean(5, 1), 1);
  }

  private static void tracks() {
    promise = 29;
    StarWalk x = told("star 0 9 5;star 0 9 5;star 0 1 3;plain;lame;guide;wind 10;plan 0 1 5;");
    due("see(-1,0)", x.see(-1, 0), BAD);
    due("see(9,0)", x.see(9, 0), BAD);
    due("see(0,-100)", x.see(0, -100), BAD);
    due("see(0,100)", x.see(0, 100), BAD);
    due("see(0,-99)", x.see(0, -99), 1);
    due("see(8,99)", x.see(8, 99), 2);
    for (int i = 3; i <= 6; i++) {
      due("see", x.see(1, 2), i);
    }
    due("see when full", x.see(1, 2), FULL);
    due("see(9,2) when full", x.see(9, 2), BAD);
    promise = 30;
    due("forget(-1)", x.forget(-1), BAD);
    due("forget(7)", x.forget(7), BAD);
    due("forget(6)", x.forget(6), 6);
    due("forget(1)", x.forget(1), 6);
    due("forget(2)", x.forget(2), BAD);
    due("count(1)", x.count(1), 1);
    due("forget(0)", x.forget(0), 1);
    promise = 31;
    due("nothing seen: all that there are", x.aims(0), 103);
    x.see(0, 0);
    x.see(1, 2);
    due("aims(0)", x.aims(0), 3);
    due("aims(1): behind it nothing was seen", x.aims(1), 103);
    x.see(2, 3);
    due("aims(1)", x.aims(1), 32);
    due("aims(2): the row before it is off", x.aims(2), 0);
    x.forget(2);
    x.see(8, 5);
    due("behind the last: 2, 2, then 1 more", x.aims(2), 36);
    due("behind the last: a rest for the second gives 3", x.aims(1), 3);
    due("aims(-1)", x.aims(-1), BAD);
    due("aims(3)", x.aims(3), BAD);
    x.forget(0);
    x.see(0, 1);
    due("side now is another", x.aims(0), 0);
    x.forget(0);
    x.go(5);
    x.see(0, 1);
    due("side now is as seen", x.aims(0), 103);
    due("the plan is as it was", x.plan(0), 0);
    promise = 32;
    x = told("plain;lame;guide;wind 10;plan 5 5;");
    due("nothing seen", x.whose(), 7);
    x.see(2, 2);
    due("of three, 1 less", x.whose(), 7);
    x.teach(1, 2);
    for (int i = 0; i < 4; i++) {
      x.go(6);
    }
    due("hours 4 and 5: tired pulls 1 and 2", x.whose(), 5);
    x.forget(0);
    x.see(2, 5);
    x.see(1, 2);
    due("tired", x.whose(), 2);
    x.see(1, 3);
    due("both can not be", x.whose(), 0);
    due("nobody", new StarWalk().whose(), 0);
    due("in front is who was", x.rule(2), 0);
    promise = 33;
    x = told("star 0 9 5;star 0 9 4;star 0 9 2;plan 0 1;known 0;");
    due("fits(0): nothing seen", x.fits(0), 8);
    due("fits(1): nothing seen", x.fits(1), 0);
    x.see(2, 1);
    due("fits(0): 0 known, 1 not", x.fits(0), 2);
    due("fits(1)", x.fits(1), 1);
    x.see(1, 2);
    due("fits(0): none", x.fits(0), 0);
    due("fits(1): none", x.fits(1), NONE);
    due("fits(-1)", x.fits(-1), BAD);
    due("fits(2)", x.fits(2), BAD);
    due("known as it was", x.count(0), 1);
  }

  private static void drift() {
    promise = 34;
    // Seed 0 becomes 12345, whose bits 16 to 30 are 0: the aim is star 0.
    StarWalk x = told("lame;wind 1;cloud 0;star 1 1 6;water 0;");
    due("drift(0,0,0)", x.drift(0, 0, 0), BAD);
    due("drift(0,31,0)", x.drift(0, 31, 0), BAD);
    due("drift(0,1,-1)", x.drift(0, 1, -1), BAD);
    due("drift(0,1,2)", x.drift(0, 1, 2), BAD);
    due("star 0 under cloud, by wind", x.drift(0, 1, 0), 3);
    due("star 0 under cloud, by wind", x.drift(0, 1, 1), 1002);
    int seed = 99;
    int miles = 0;
    int side = 0;
    for (int i = 0; i < 30; i++) {
      seed = seed * 1103515245 + 12345;
      int aim = ((seed >> 16) & 32767) % 7;
      int hour = i % 10;
      int pull = hour >= 5 ? 2 : 1;
      if (aim == 6) {
        continue;
      }
      boolean seen = aim == 0 && hour == 1;
      boolean wind = hour < 1;
      miles += seen || wind ? 3 : 2;
      side += seen ? pull + 3 : wind ? pull + 1 : 2 * pull + 1;
    }
    due("drift(99,30,0)", x.drift(99, 30, 0), miles);
    due("drift(99,30,1)", x.drift(99, 30, 1), 1000 + side);
    at(x, 0, 0, 0, 0);
    x.set(6, 5);
    x.go(5);
    due("by itself", x.drift(99, 30, 0), miles);
    due("by itself", x.drift(99, 30, 1), 1000 + side);
    at(x, 1, 3, 2, 4);
  }

  private static void images() {
    promise = 35;
    StarWalk x = told("star 1 2 4;lame;tired;well 30 5;wind 7;water 8;cloud 4;plan 0 5 6;known 0;");
    due("keep(-1)", x.keep(-1), BAD);
    due("keep(2)", x.keep(2), BAD);
    x.see(1, 2);
    x.set(2, 1);
    x.go(5);
    due("keep(1)", x.keep(1), 0);
    due("keep(1)", x.keep(1), 1);
    promise = 36;
    due("back(-1)", x.back(-1), BAD);
    due("back(2)", x.back(2), BAD);
    due("back(0)", x.back(0), STATE);
    x.turn(0, 0);
    x.know(0, false);
    x.teach(0, 3);
    for (int what = 2; what <= 6; what++) {
      x.set(what, 1);
    }
    x.set(2, 0);
    x.cloud(0, true);
    x.forget(0);
    x.see(8, 8);
    x.see(8, 8);
    x.cut(0);
    x.plans(6);
    x.go(6);
    x.feed('a');
    due("keep(0)", x.keep(0), 0);
    due("back(1)", x.back(1), 1);
    int[] was = {1, 2, 1, 30, 5, 7, 7, 16, 1, 3, 1002, 0, 3};
    for (int what = 0; what < was.length; what++) {
      due("rule(" + what + ") is back", x.rule(what), was[what]);
    }
    due("off", x.star(0, 2), 4);
    due("known", x.star(0, 3), 1);
    due("kind", x.walker(0), 1);
    due("plan", x.plan(1), 5);
    due("seen", x.count(1), 1);
    due("the tape is not of it", x.count(3), 1);
    x.cut(0);
    x.plans(6);
    x.go(6);
    due("back(1) again", x.back(1), 1);
    due("the image stays", x.plan(0), 0);
    due("what was seen: 1 aim, side 2", x.whose(), 0);
    due("back(0)", x.back(0), 2);
    due("seen", x.count(1), 2);
  }

  private static void sheets() {
    promise = 37;
    StarWalk x = new StarWalk();
    due("sheet(-1)", x.sheet(-1, 0, 1), BAD);
    due("sheet(4)", x.sheet(4, 0, 1), BAD);
    due("lane -1", x.sheet(0, -1, 1), BAD);
    due("lane 3", x.sheet(0, 3, 1), BAD);
    due("41 cells", x.sheet(0, 0, 41), BAD);
    due("-1 cells", x.sheet(0, 0, -1), -14);
    due("-1 cells on a lane that is not", x.sheet(0, 3, -1), BAD);
    due("nothing still", x.count(4), NONE);
    due("40 cells", x.sheet(0, 2, 40), 1);
    due("count(4)", x.count(4), 40);
    due("SIZE changes nothing", x.sheet(0, 0, Integer.MIN_VALUE), -14);
    due("count(4)", x.count(4), 40);
    due("no cells", x.sheet(3, 1, 0), 1);
    promise = 38;
    due("lay(-1)", x.lay(-1, 0, 0), BAD);
    due("lay(4)", x.lay(4, 0, 0), BAD);
    due("lay on nothing", x.lay(1, -5, 0), -11);
    due("lay(0,-1)", x.lay(0, -1, 0), -12);
    due("lay(0,40)", x.lay(0, 40, 0), -12);
    due("lay(3,0) of no cells", x.lay(3, 0, 0), -12);
    due("lay(0,39)", x.lay(0, 39, 6), 1);
    promise = 39;
    due("read(-1)", x.read(-1, 0, 0, 1), BAD);
    due("read(4)", x.read(4, 0, 0, 1), BAD);
    due("lane -1", x.read(0, -1, 0, 1), BAD);
    due("lane 3", x.read(0, 3, 0, 1), BAD);
    due("n -1", x.read(0, 2, 0, -1), BAD);
    due("n 11", x.read(0, 2, 0, 11), BAD);
    due("a cell of 0, no star", x.read(0, 2, 38, 2), -20);
    x.sheet(1, 0, 4);
    x.lay(1, 0, 256 + 5);
    x.lay(1, 1, -256 + 6);
    x.lay(1, 2, 5);
    x.lay(1, 3, 128 + 5);
    due("lowest bits of bytes", x.read(1, 0, 0, 3), 3);
    at(x, 3, 6, 2, 17);
    due("a byte below 0", x.read(1, 0, 0, 4), -23);
    at(x, 3, 6, 2, 17);
    x.sheet(2, 1, 2);
    x.lay(2, 0, 65536 + 5);
    x.lay(2, 1, 256 + 5);
    due("lowest bits of shorts", x.read(2, 1, 0, 1), 1);
    due("a short is no aim", x.read(2, 1, 0, 2), -21);
    x.lay(0, 0, 65536 + 5);
    x.lay(0, 1, 6);
    due("ints are whole", x.read(0, 2, 0, 1), -20);
    due("an int", x.read(0, 2, 1, 1), 1);
    due("hour", x.rule(8), 5);
    due("torn", x.torn(), 0);
    due("index behind one step", x.read(0, 2, 39, 3), 1);
    due("torn", x.torn(), 2);
    due("hour", x.rule(8), 6);
    due("index at once", x.read(0, 2, -1, 3), 0);
    due("index at once", x.read(0, 2, Integer.MAX_VALUE, 3), 0);
    due("index at once", x.read(0, 2, Integer.MIN_VALUE, 3), 0);
    due("no time at all", x.read(0, 2, -1, 0), 0);
    promise = 40;
    due("torn by none", x.torn(), 0);
    x.read(0, 0, 99, 1);
    due("cast ahead of index", x.torn(), 3);
    x.read(3, 1, 0, 1);
    due("index", x.torn(), 2);
    StarWalk y = new StarWalk();
    due("nothing", y.read(2, 1, 0, 1), 0);
    due("null", y.torn(), 1);
    y.read(4, 0, 0, 1);
    due("BAD is no end", y.torn(), 1);
    y.sheet(2, 1, 1);
    due("refused by go()", y.read(2, 1, 0, 1), -20);
    due("refused is no end", y.torn(), 1);
    y.lay(2, 0, 6);
    due("whole", y.read(2, 1, 0, 1), 1);
    due("torn", y.torn(), 0);
    y.lay(2, 5, 0);
    y.sheet(2, 0, -1);
    due("of read() alone", y.torn(), 0);
    promise = 39;
    y.sheet(0, 0, 10);
    for (int i = 0; i < 10; i++) {
      y.lay(0, i, 6);
    }
    due("to hour 11", y.read(0, 0, 0, 10), -29);
    due("then none is", y.rule(8), 1);
    due("to hour 10", y.read(0, 0, 0, 9), 9);
    due("hour", y.rule(8), 10);
    due("the water", y.rule(6), 10);
    y.sheet(0, 0, 3);
    due("renewed", tell(y, "star 0 9 6;"), 1);
    due("renewed cells are 0", y.read(0, 0, 0, 3), 3);
    at(y, 3, 9, 9, 17);
    due("count", y.count(4), 3);
  }

  private static void count() {
    promise = 41;
    StarWalk x = told("star 0 0 0;star 0 0 0;star 0 0 0;known 0;known 2;");
    x.see(0, 0);
    x.keep(1);
    feedAll(x, "abc");
    x.sheet(0, 0, 0);
    int[] want = {2, 1, 1, 3, 0};
    for (int what = 0; what < want.length; what++) {
      due("count(" + what + ")", x.count(what), want[what]);
    }
    x.keep(0);
    due("count(2)", x.count(2), 2);
    due("count(-1)", x.count(-1), BAD);
    due("count(5)", x.count(5), BAD);
  }

  public static void main(String[] args) {
    newObject();
    feed();
    end();
    text();
    fault();
    ruleStarWalkerPlan();
    changes();
    pullAndUp();
    go();
    runs();
    next();
    best();
    frontLessonsThirst();
    weatherLuckMean();
    tracks();
    drift();
    images();
    sheets();
    count();
    System.out.println(asked + " answers asked, " + wrong + " wrong");
    if (wrong != 0) {
      System.exit(1);
    }
  }
}
