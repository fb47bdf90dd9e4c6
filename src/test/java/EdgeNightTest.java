// The edges of what is asked and changed and of the walk by night: promises 6 to 28 and part 2 of the Terms.
public final class EdgeNightTest {
  private static final int BAD = -1, STATE = -2, FULL = -3, NONE = -4;
  private static final String[] KINDS = {"plain", "lame", "tired", "guide"};

  private static void due(String what, long got, long want) {
    Check.due(what, got, want);
  }

  private static StarWalk told(String text) {
    return Check.told(text);
  }

  private static String times(int n, String what) {
    return what.repeat(n);
  }

  /** A straight star that is up all night, nobody, no wind, and a plan of n times that star. */
  private static StarWalk straight(int n, String more) {
    return told("star 0 9 3;wind 0;plan" + times(n, " 0") + ";" + more);
  }

  // ---- what is asked

  private static void asked() {
    Check.says(6, "12 AIMS in THE PLAN. BAD.");
    Check.takes("rule", 0, 12, what -> new StarWalk().rule(what));
    Check.says(6, "10 1000 and SIDE");
    StarWalk x = told("star 0 9 0;");
    x.go(0);
    due("to the right", x.rule(10), 997);
    x = told("star 0 9 6;");
    x.go(0);
    due("to the left", x.rule(10), 1003);
    Check.says(6, "7 CLOUD (bits)");
    due("the first and the last hour", told("cloud 9;cloud 0;").rule(7), 513);

    Check.says(7, "Of a STAR: 0 FROM, 1 TO, 2 OFF, 3 whether it is KNOWN (1, 0). BAD.");
    for (int n = 1; n <= 5; n++) {
      String stars = times(n, "star 2 7 6;");
      Check.takes("star of " + n, 0, n - 1, s -> told(stars).star(s, 0));
    }
    due("star(0,0) of none", new StarWalk().star(0, 0), BAD);
    Check.takes("what of a star", 0, 3, what -> told("star 2 7 6;").star(0, what));
    x = told("star 2 7 6;star 0 9 0;known 1;");
    int[][] stars = {{2, 7, 6, 0}, {0, 9, 0, 1}};
    for (int s = 0; s < 2; s++) {
      for (int what = 0; what < 4; what++) {
        due("star(" + s + "," + what + ")", x.star(s, what), stars[s][what]);
      }
    }

    Check.says(8, "KIND of a WALKER. BAD.");
    for (int n = 1; n <= 3; n++) {
      String walkers = times(n, "guide;");
      Check.takes("walker of " + n, 0, n - 1, w -> told(walkers).walker(w));
    }
    due("walker(0) of nobody", new StarWalk().walker(0), BAD);

    Check.says(9, "The i-th AIM of THE PLAN (from 0). BAD.");
    for (int n = 1; n <= 8; n++) {
      String plan = "plan" + times(n, " 6") + ";";
      Check.takes("plan of " + n, 0, n - 1, i -> told(plan).plan(i));
    }
    due("plan(0) of none", new StarWalk().plan(0), BAD);
    x = told("star 0 0 0;plan 6 5 0;");
    due("the first", x.plan(0), 6);
    due("the second", x.plan(1), 5);
    due("the last", x.plan(2), 0);
  }

  // ---- what is changed

  private static void set() {
    Check.says(10, "FRONT (a WALKER), MILES of THE WELL, BROAD, TILL, WATER (what 2 to 6 as in rule()) becomes v: what it was. BAD.");
    Check.takes("what of set", 2, 6, what -> told("plain;lame;").set(what, 1));
    for (int n = 1; n <= 3; n++) {
      String walkers = times(n, "plain;");
      Check.takes("front of " + n, 0, n - 1, v -> told(walkers).set(2, v));
    }
    due("front of nobody", new StarWalk().set(2, 0), BAD);
    int[][] bounds = {{3, 1, 40, 20}, {4, 0, 9, 2}, {5, 0, 10, 3}, {6, 0, 99, 20}};
    for (int[] b : bounds) {
      Check.takes("set(" + b[0] + ")", b[1], b[2], v -> new StarWalk().set(b[0], v));
      StarWalk x = new StarWalk();
      due("set(" + b[0] + ") to the least", x.set(b[0], b[1]), b[3]);
      due("it is the least", x.rule(b[0]), b[1]);
      due("set(" + b[0] + ") to the most", x.set(b[0], b[2]), b[1]);
      due("it is the most", x.rule(b[0]), b[2]);
    }
    StarWalk x = told("plain;lame;tired;");
    due("front was the first", x.set(2, 2), 0);
    due("front was the last", x.set(2, 0), 2);
  }

  private static void cloudKnowTurnTeach() {
    Check.says(11, "There is CLOUD in an HOUR, or not: whether there was. BAD.");
    Check.takes("cloud", 0, 9, h -> new StarWalk().cloud(h, true));
    Check.takes("no cloud", 0, 9, h -> new StarWalk().cloud(h, false));
    StarWalk x = new StarWalk();
    for (int h = 0; h < 10; h++) {
      due("cloud in hour " + h, x.cloud(h, true), 0);
      due("already", x.cloud(h, true), 1);
      due("bits", x.rule(7), (2 << h) - 1);
    }
    for (int h = 0; h < 10; h++) {
      due("no cloud in hour " + h, x.cloud(h, false), 1);
      due("already", x.cloud(h, false), 0);
      due("bits", x.rule(7), 1023 - ((2 << h) - 1));
    }

    Check.says(12, "A STAR is KNOWN, or not: whether it was. BAD.");
    for (int n = 1; n <= 5; n++) {
      String stars = times(n, "star 0 0 0;");
      Check.takes("know of " + n, 0, n - 1, s -> told(stars).know(s, true));
      Check.takes("know not of " + n, 0, n - 1, s -> told(stars).know(s, false));
    }
    due("know(0) of none", new StarWalk().know(0, true), BAD);
    x = told(times(5, "star 0 0 0;"));
    for (int s = 0; s < 5; s++) {
      due("know " + s, x.know(s, true), 0);
      due("already", x.know(s, true), 1);
      due("so many are known", x.count(0), s + 1);
    }
    due("know not", x.know(4, false), 1);
    due("already not", x.know(4, false), 0);
    due("the one before is known", x.star(3, 3), 1);

    Check.says(13, "OFF of a STAR becomes v: what it was. BAD.");
    Check.takes("turn of a star", 0, 4, s -> told(times(5, "star 0 0 0;")).turn(s, 1));
    Check.takes("turn to", 0, 6, v -> told("star 0 0 0;").turn(0, v));
    due("turn(0,0) of none", new StarWalk().turn(0, 0), BAD);
    x = told("star 0 0 3;star 0 0 4;");
    due("to the right", x.turn(1, 0), 4);
    due("to the left", x.turn(1, 6), 0);
    due("it is", x.star(1, 2), 6);
    due("the other stays", x.star(0, 2), 3);

    Check.says(14, "A WALKER becomes of a KIND: of which it was. BAD.");
    Check.takes("teach a walker", 0, 2, w -> told("plain;plain;plain;").teach(w, 1));
    Check.takes("teach a kind", 0, 3, kind -> told("plain;").teach(0, kind));
    due("teach(0,0) of nobody", new StarWalk().teach(0, 0), BAD);
    x = told("plain;lame;");
    due("a guide", x.teach(1, 3), 1);
    due("plain", x.teach(1, 0), 3);
    due("it is", x.walker(1), 0);
  }

  private static void plansAndCut() {
    Check.says(15, "An AIM more in THE PLAN: how many it has. BAD; FULL.");
    for (int n = 0; n <= 5; n++) {
      String stars = times(n, "star 0 0 0;");
      int[] wild = {-1, 7, Integer.MIN_VALUE, Integer.MAX_VALUE};
      for (int aim = 0; aim <= 6; aim++) {
        due("plans(" + aim + ") of " + n + " stars", told(stars).plans(aim), aim < n || aim > 4 ? 1 : BAD);
      }
      for (int aim : wild) {
        due("plans(" + aim + ")", told(stars).plans(aim), BAD);
      }
    }
    StarWalk x = new StarWalk();
    for (int i = 0; i < 8; i++) {
      due("plans", x.plans(5 + i % 2), i + 1);
    }
    due("the ninth", x.plans(5), FULL);
    due("aims", x.rule(12), 8);
    Check.says(0, "the first that fits");
    due("no aim, in a full plan", x.plans(7), BAD);
    due("no star, in a full plan", x.plans(0), BAD);
    due("the last stays", x.plan(7), 6);

    Check.says(16, "THE PLAN has its first n AIMS alone: how many it had. BAD.");
    for (int n = 0; n <= 8; n++) {
      String plan = "plan" + times(n, " 6") + ";";
      Check.takes("cut of " + n, 0, n, i -> told(plan).cut(i));
    }
    x = told("plan 5 6 5 6 5 6 5 6;");
    due("all are kept", x.cut(8), 8);
    due("seven", x.cut(7), 8);
    due("there is room for one", x.plans(5), 8);
    due("it is the last", x.plan(7), 5);
    due("one", x.cut(1), 8);
    due("it is the first", x.plan(0), 5);
    due("there is no second", x.plan(1), BAD);
    due("none", x.cut(0), 1);
    due("none of none", x.cut(0), 0);
    due("one of none", x.cut(1), BAD);
    due("one more", x.plans(6), 1);
    due("it is the first", x.plan(0), 6);
  }

  // ---- by night

  private static void pull() {
    Check.says(17, "PULL of the row in an HOUR (0 to 9). BAD.");
    Check.takes("pull", 0, 9, h -> told("tired;").pull(h));
    Check.takes("pull of nobody", 0, 9, h -> new StarWalk().pull(h));
    Check.says(0, "plain 1 from hour 5 on, else 0");
    for (int h = 0; h < 10; h++) {
      due("plain, hour " + h, told("plain;").pull(h), h < 5 ? 0 : 1);
    }
    Check.says(0, "lame 1 more");
    for (int h = 0; h < 10; h++) {
      due("lame, hour " + h, told("lame;").pull(h), h < 5 ? 1 : 2);
    }
    Check.says(0, "tired a quarter of the hour (down) more than lame");
    int[] tired = {1, 1, 1, 1, 2, 3, 3, 3, 4, 4};
    for (int h = 0; h < 10; h++) {
      due("tired, hour " + h, told("tired;").pull(h), tired[h]);
    }
    Check.says(0, "guide half of lame (down)");
    for (int h = 0; h < 10; h++) {
      due("guide, hour " + h, told("guide;").pull(h), h < 5 ? 0 : 1);
    }
    Check.says(0, "PULL of the row is that of who is in FRONT, 1 less (0 at least), if there are three; nobody: 0.");
    for (int h = 0; h < 10; h++) {
      due("nobody, hour " + h, new StarWalk().pull(h), 0);
      due("two, hour " + h, told("tired;plain;").pull(h), tired[h]);
      due("three, hour " + h, told("tired;plain;plain;").pull(h), tired[h] - 1);
      due("three, plain, hour " + h, told("plain;tired;tired;").pull(h), 0);
      due("three, guide, hour " + h, told("guide;tired;tired;").pull(h), 0);
      due("three, lame, hour " + h, told("lame;tired;tired;").pull(h), h < 5 ? 0 : 1);
    }
    StarWalk x = told("plain;lame;tired;");
    x.set(2, 2);
    due("the last in front", x.pull(8), 3);
    x.set(2, 1);
    due("the second in front", x.pull(8), 1);
  }

  private static void up() {
    Check.says(18, "STARS that are UP in an HOUR (0 to 9; bits). BAD.");
    Check.takes("up", 0, 9, h -> told("star 0 0 0;").up(h));
    Check.takes("up of none", 0, 9, h -> new StarWalk().up(h));
    due("all five", told(times(5, "star 3 3 0;")).up(3), 31);
    due("the fifth alone", told(times(4, "star 0 2 0;") + "star 3 3 0;").up(3), 16);
    due("no star", new StarWalk().up(0), 0);
    Check.says(0, "A STAR is UP in an HOUR from FROM to TO, if there is no CLOUD.");
    for (int from = 0; from < 10; from++) {
      for (int to = from; to < 10; to++) {
        StarWalk x = told("star " + from + " " + to + " 0;");
        for (int h = 0; h < 10; h++) {
          due("from " + from + " to " + to + ", hour " + h, x.up(h), from <= h && h <= to ? 1 : 0);
          x.cloud(h, true);
          due("under cloud", x.up(h), 0);
        }
      }
    }
  }

  private static void go() {
    Check.says(19, "A STEP by an AIM: MILES gone then. BAD (also a STAR that there is not); STATE.");
    int[] wild = {-1, 7, Integer.MIN_VALUE, Integer.MAX_VALUE};
    for (int n = 0; n <= 5; n++) {
      String stars = times(n, "star 0 9 3;");
      for (int aim = 0; aim <= 6; aim++) {
        long want = aim == 6 ? 0 : aim < n || aim == 5 ? 3 : BAD;
        due("go(" + aim + ") of " + n + " stars", told(stars).go(aim), want);
        StarWalk dry = told(stars + "water 0;");
        due("without water", dry.go(aim), want == BAD ? BAD : STATE);
        StarWalk late = Check.rested(told(stars), 10);
        due("at hour 10", late.go(aim), want == BAD ? BAD : STATE);
      }
      for (int aim : wild) {
        due("go(" + aim + ")", told(stars).go(aim), BAD);
        due("go(" + aim + ") without water", told(stars + "water 0;").go(aim), BAD);
      }
    }
    Check.says(0, "A rest: WATER is 1 less.");
    StarWalk x = told("tired;water 1;wind 0;");
    due("a rest", x.go(6), 0);
    Check.at(x, 1, 0, 0, 0);
    x = Check.rested(told("tired;wind 0;"), 9);
    due("the last hour's rest", x.go(6), 0);
    Check.at(x, 10, 0, 0, 10);
    Check.says(0, "A STAR that is UP: MILES 3 more, SIDE more by PULL and, if it is not KNOWN, by OFF less 3; WATER 1 less.");
    for (int off = 0; off <= 6; off++) {
      x = told("star 0 9 " + off + ";lame;wind 0;");
      due("not known", x.go(0), 3);
      Check.at(x, 1, 3, 1 + off - 3, 19);
      x.know(0, true);
      due("known", x.go(0), 6);
      Check.at(x, 2, 6, 2 + off - 3, 18);
    }
    Check.says(0, "0 to 6: 3 is straight, above it to the left, below it to the right");
    x = told("star 0 9 3;");
    x.go(0);
    Check.at(x, 1, 3, 0, 19);
    x.turn(0, 4);
    x.go(0);
    Check.at(x, 2, 6, 1, 18);
    x.turn(0, 2);
    x.go(0);
    x.go(0);
    Check.at(x, 4, 12, -1, 16);
    windAndBlind();
    water();
  }

  private static void windAndBlind() {
    Check.says(0, "in an HOUR below TILL: MILES 3 more, SIDE more by PULL and 1; WATER 1 less. Else BLIND: MILES 2 more, SIDE more by twice PULL and 1; WATER 2 less.");
    for (int till = 0; till <= 10; till++) {
      for (int h = 0; h < 10; h++) {
        int pull = h < 5 ? 1 : 2;
        boolean wind = h < till;
        int side = wind ? pull + 1 : 2 * pull + 1;
        int[] aims = {0, 1, 5};
        for (int aim : aims) {
          StarWalk x = Check.rested(told("star 0 9 0;star 9 9 6;known 1;lame;wind " + till + ";"), h);
          x.cloud(h, true);
          due("aim " + aim + ", till " + till + ", hour " + h, x.go(aim), wind ? 3 : 2);
          Check.at(x, h + 1, wind ? 3 : 2, side, 20 - h - (wind ? 1 : 2));
        }
      }
    }
    Check.says(0, "Else (by WIND, or the STAR is not UP)");
    StarWalk x = told("star 1 1 0;wind 10;");
    due("ahead of FROM", x.go(0), 3);
    Check.at(x, 1, 3, 1, 19);
    due("in its hour", x.go(0), 6);
    Check.at(x, 2, 6, -2, 18);
    due("behind TO", x.go(0), 9);
    Check.at(x, 3, 9, -1, 17);
    x = told("star 0 9 0;cloud 0;wind 10;");
    due("by wind while a star is up behind cloud", x.go(5), 3);
    Check.at(x, 1, 3, 1, 19);
    due("by wind while a star is up", x.go(5), 6);
    Check.at(x, 2, 6, 2, 18);
  }

  private static void water() {
    Check.says(0, "WATER is 0 at least");
    StarWalk x = told("wind 0;water 1;");
    due("blind with the last of it", x.go(5), 2);
    Check.at(x, 1, 2, 1, 0);
    x = told("wind 0;water 2;");
    due("blind with two", x.go(5), 2);
    Check.at(x, 1, 2, 1, 0);
    x = told("wind 0;water 3;");
    due("blind with three", x.go(5), 2);
    Check.at(x, 1, 2, 1, 1);
    Check.says(0, "has it been 0, nobody walks, no one rests (STATE); likewise at HOUR 10.");
    int[] aims = {0, 5, 6};
    for (int aim : aims) {
      x = told("star 0 9 3;water 0;");
      due("without water", x.go(aim), STATE);
      Check.at(x, 0, 0, 0, 0);
      x.set(6, 1);
      due("with one", x.go(aim), aim == 6 ? 0 : 3);
      due("and none again", x.go(aim), STATE);
      x = Check.rested(told("star 0 9 3;wind 10;"), 9);
      due("in the last hour", x.go(aim), aim == 6 ? 0 : 3);
      due("at hour 10", x.go(aim), STATE);
      due("hour", x.rule(8), 10);
      due("water", x.rule(6), 10);
    }
  }

  private static void atTheWell() {
    Check.says(0, "AT THE WELL is who has gone its MILES or more and is BROAD or less from it to either side.");
    for (int off = 0; off <= 6; off++) {
      StarWalk x = told("star 0 9 " + off + ";plan 0;");
      x.go(0);
      x.go(0);
      int side = Math.abs(2 * (off - 3));
      for (int broad = 0; broad <= 9; broad++) {
        x.set(4, broad);
        for (int miles = 5; miles <= 7; miles++) {
          x.set(3, miles);
          due("off " + off + ", broad " + broad + ", miles " + miles, x.rule(11), side <= broad && miles <= 6 ? 1 : 0);
        }
      }
    }
    due("nowhere yet", told("well 1 9;").rule(11), 0);
  }

  // ---- by the plan

  private static void ran(StarWalk x, int... want) {
    for (int what = 0; what < want.length; what++) {
      due("runs(" + what + ")", x.runs(what), want[what]);
    }
  }

  private static void runs() {
    Check.says(20, "the first AIM that can not be (6: from 0; NONE: all can). BAD.");
    Check.takes("runs", 0, 6, what -> straight(1, "").runs(what));
    String clouds = "";
    for (int h = 0; h < 8; h++) {
      clouds += "cloud " + h + ";";
    }
    ran(straight(0, ""), 0, 1000, 20, 0, 0, 0, NONE);
    ran(straight(0, "water 0;"), 0, 1000, 0, 0, 0, 0, NONE);
    ran(Check.rested(straight(0, ""), 10), 0, 1000, 10, 10, 0, 0, NONE);
    ran(straight(1, ""), 3, 1000, 19, 1, 0, 0, NONE);
    ran(straight(8, ""), 24, 1000, 12, 8, 0, 1, NONE);
    ran(straight(8, clouds), 16, 1008, 4, 8, 8, 0, NONE);
    ran(straight(8, clouds + "water 15;"), 16, 1008, 0, 8, 8, 0, NONE);
    ran(straight(8, clouds + "water 14;"), 14, 1007, 0, 7, 7, 0, 7);
    ran(straight(8, clouds + "water 1;"), 2, 1001, 0, 1, 1, 0, 1);
    ran(straight(8, "water 0;"), 0, 1000, 0, 0, 0, 0, 0);
    ran(told("water 1;plan 6 6;"), 0, 1000, 0, 1, 0, 0, 1);
    Check.says(0, "BY THE PLAN: its AIMS from now on, those that can not be passed over.");
    ran(Check.rested(straight(8, ""), 2), 24, 1000, 10, 10, 0, 1, NONE);
    ran(Check.rested(straight(8, ""), 3), 21, 1000, 10, 10, 0, 1, 7);
    ran(Check.rested(straight(8, ""), 9), 3, 1000, 10, 10, 0, 0, 1);
    ran(Check.rested(straight(8, ""), 10), 0, 1000, 10, 10, 0, 0, 0);
    StarWalk x = straight(1, "well 6 0;");
    x.go(0);
    ran(x, 6, 1000, 18, 2, 0, 1, NONE);
    due("from now on, whenever it is", x.go(0), 6);
    ran(x, 9, 1000, 17, 3, 0, 1, NONE);
    Check.says(20, "1000 and SIDE (1)");
    ran(told("star 0 9 0;plan 0 0 0 0 0 0 0 0;"), 24, 976);
    ran(told("tired;wind 0;water 99;plan 5 5 5 5 5 5 5 5;"), 16, 1000 + 3 + 3 + 3 + 3 + 5 + 7 + 7 + 7);
  }

  private static void next() {
    Check.says(21, "The AIM (0 to 5) for the next HOUR by which SIDE is nearest to 0 behind it");
    due("no star", new StarWalk().next(), 5);
    due("a rest would be nearest", told("star 0 9 6;wind 10;").next(), 5);
    due("the fifth star", told(times(4, "star 0 9 6;") + "star 0 9 3;").next(), 4);
    due("1 rather than -2 and -3", told("star 0 9 0;star 0 9 1;wind 10;").next(), 5);
    due("-1 rather than 2", told("star 0 9 5;star 0 9 2;lame;wind 10;").next(), 1);
    due("nearer, if by fewer miles", told("star 0 9 6;wind 0;").next(), 5);
    StarWalk x = told("star 0 9 6;star 0 9 3;star 0 9 1;wind 10;");
    x.go(0);
    due("back from the left", x.next(), 2);
    Check.says(21, "of several by which MILES are most");
    due("blind 1, a star's 1", told("star 9 9 3;star 0 8 4;wind 0;").next(), 1);
    due("blind 1, a star's -1", told("star 9 9 3;star 0 8 2;wind 0;").next(), 1);
    Check.says(21, "then the first.");
    due("-1 ahead of 1", told("star 0 9 0;star 0 9 2;wind 10;").next(), 1);
    due("1 ahead of -1", told("star 0 9 4;star 0 9 2;").next(), 0);
    due("all blind", told("star 9 9 3;star 9 9 3;wind 0;").next(), 0);
    due("all five", told(times(5, "star 0 9 3;")).next(), 0);
    Check.says(21, "STATE: nobody walks.");
    x = told("star 0 9 3;water 1;");
    due("the last of the water", x.next(), 0);
    x.go(0);
    due("no water", x.next(), STATE);
    due("no star, no water", told("water 0;").next(), STATE);
    x = Check.rested(told("star 0 9 3;"), 9);
    due("the last hour", x.next(), 0);
    x.go(6);
    due("hour 10", x.next(), STATE);
  }

  private static void row(StarWalk x, int n, int side, int miles, int... row) {
    due("best(" + n + ",0)", x.best(n, 0), 1000 + side);
    due("best(" + n + ",1)", x.best(n, 1), miles);
    for (int i = 0; i < n; i++) {
      due("best(" + n + "," + (10 + i) + ")", x.best(n, 10 + i), row[i]);
    }
    int[] behind = {n, n + 1, 4, 5, 100, Integer.MAX_VALUE - 10};
    for (int i : behind) {
      due("best(" + n + ",10 and " + i + ")", x.best(n, 10 + i), NONE);
    }
  }

  private static void best() {
    Check.says(22, "The row of n AIMS (0 to 4)");
    Check.takes("n of best", 0, 4, n -> told("star 0 9 3;").best(n, 0));
    Check.takes("n of best", 0, 4, n -> told("star 0 9 3;").best(n, 10));
    Check.says(22, "1000 and SIDE (what 0), MILES (1); 10 and i: its i-th AIM (NONE: not so many). BAD.");
    for (int n = 0; n <= 4; n++) {
      StarWalk x = told("star 0 9 3;");
      int[] wild = {-1, -10, Integer.MIN_VALUE, 2, 3, 4, 5, 6, 7, 8, 9};
      for (int what : wild) {
        due("best(" + n + "," + what + ")", x.best(n, what), BAD);
      }
      row(x, n, 0, 3 * n, 0, 0, 0, 0);
    }
    due("n is looked at first", told("star 0 9 3;").best(5, 14), BAD);
    StarWalk x = told("star 0 9 6;");
    x.go(0);
    row(x, 0, 3, 3);
    x = told("star 0 9 0;");
    x.go(0);
    row(x, 0, -3, 3);
    Check.says(22, "by which SIDE is nearest to 0 in the end");
    row(told("star 0 9 6;wind 10;"), 1, 0, 0, 6);
    row(told("star 0 9 2;wind 10;lame;"), 1, 0, 3, 0);
    row(told("star 0 0 5;star 1 1 1;star 2 2 3;wind 0;"), 3, 0, 9, 0, 1, 2);
    x = told("star 0 0 6;star 1 9 0;wind 10;");
    row(x, 2, 0, 6, 0, 1);
    row(x, 1, 0, 0, 6);
    x.go(0);
    row(x, 1, 0, 6, 1);
    row(x, 0, 3, 3);
    x.go(5);
    row(x, 1, 1, 9, 1);
    Check.says(22, "of several by which MILES are most, then the first by numbers");
    row(told("star 0 9 2;wind 10;"), 2, 0, 6, 0, 5);
    row(told("star 0 9 4;star 0 9 2;wind 10;"), 2, 0, 6, 0, 1);
    row(told(times(4, "star 0 9 6;") + "star 0 9 3;"), 4, 0, 12, 4, 4, 4, 4);
    row(told("star 0 9 3;star 0 9 3;"), 4, 0, 12, 0, 0, 0, 0);
    row(told("wind 0;lame;"), 2, 0, 0, 6, 6);
    Check.says(22, "all AIMS that there are; those that can not be are passed over");
    row(told("water 0;"), 4, 0, 0, 5, 5, 5, 5);
    row(told("star 0 9 6;water 0;"), 4, 0, 0, 0, 0, 0, 0);
    row(told("star 0 9 6;water 1;"), 2, 0, 0, 6, 0);
    row(told("star 0 9 3;water 1;"), 2, 0, 3, 0, 0);
    row(Check.rested(told("star 0 9 6;"), 9), 2, 0, 0, 6, 0);
    row(Check.rested(told("star 0 9 6;"), 10), 3, 0, 0, 0, 0, 0);
    row(Check.rested(told("star 0 9 3;"), 7), 4, 0, 9, 0, 0, 0, 0);
  }

  // ---- who in front, what to teach, how much water

  private static void front() {
    Check.says(23, "The WALKER who is to be in FRONT so that BY THE PLAN SIDE is nearest to 0, of several the first (what 0), 1000 and that SIDE (1).");
    Check.takes("front", 0, 1, what -> told("plain;").front(what));
    Check.takes("front with an empty plan", 0, 1, what -> told("plain;plan;").front(what));
    asFront(told("lame;plan 5;wind 10;"), 0, 2);
    asFront(told("tired;guide;plan 5;wind 10;"), 1, 1);
    asFront(told("plain;lame;star 0 9 0;plan 0;"), 1, -2);
    asFront(told("plain;plain;plain;plan 5;wind 10;"), 0, 1);
    asFront(Check.rested(told("tired;plain;star 0 9 1;plan 0;"), 5), 0, 1);
    asFront(Check.rested(told("plain;tired;star 0 9 1;plan 0;"), 5), 0, -1);
    asFront(Check.rested(told("tired;lame;star 0 9 1;plan 0;"), 5), 1, 0);
    asFront(Check.rested(told("tired;tired;lame;star 0 9 2;plan 0;"), 5), 2, 0);
    asFront(told("tired;plain;plan;"), 0, 0);
    asFront(told("tired;plain;plan 5 5;water 0;"), 0, 0);
    StarWalk x = told("tired;plain;plan 5;wind 10;");
    x.set(2, 1);
    asFront(x, 1, 1);
    due("in front is who was", x.rule(2), 1);
    Check.says(23, "BAD; NONE: there is nobody.");
    due("nobody", new StarWalk().front(0), NONE);
    due("nobody", new StarWalk().front(1), NONE);
    due("nobody, but BAD ahead of NONE", new StarWalk().front(2), BAD);
    due("nobody, but BAD ahead of NONE", new StarWalk().front(-1), BAD);
  }

  private static void asFront(StarWalk x, int walker, int side) {
    due("front(0)", x.front(0), walker);
    due("front(1)", x.front(1), 1000 + side);
  }

  private static void taught(StarWalk x, int many, int bits) {
    due("lessons(0)", x.lessons(0), many);
    due("lessons(1)", x.lessons(1), bits);
  }

  private static void lessons() {
    Check.says(24, "so that BY THE PLAN SIDE is BROAD or less to either side");
    Check.takes("lessons", 0, 1, what -> told("star 0 9 5;plan 0;").lessons(what));
    taught(told("star 0 9 5;well 20 2;plan 0;"), 0, 0);
    taught(told("star 0 9 5;well 20 1;plan 0;"), 1, 1);
    taught(told("star 0 9 1;well 20 2;plan 0;"), 0, 0);
    taught(told("star 0 9 1;well 20 1;plan 0;"), 1, 1);
    taught(told("star 0 9 3;well 40 0;plan 0;"), 0, 0);
    Check.says(24, "The fewest STARS more to be KNOWN");
    String three = "star 0 9 5;star 0 9 5;star 0 9 6;plan 0 1 2;";
    taught(told(three + "well 20 7;"), 0, 0);
    taught(told(three + "well 20 6;"), 1, 1);
    taught(told(three + "well 20 4;"), 1, 4);
    taught(told(three + "well 20 3;"), 2, 3);
    taught(told(three + "well 20 2;"), 2, 5);
    taught(told(three + "well 20 1;"), 3, 7);
    taught(told(three + "well 20 2;known 2;"), 1, 1);
    taught(told(three + "well 20 0;known 0;known 2;"), 1, 2);
    taught(told(three + "well 20 0;known 0;known 1;known 2;"), 0, 0);
    taught(told(times(5, "star 0 9 6;") + "well 20 0;plan 0 1 2 3 4;"), 5, 31);
    taught(told(times(5, "star 0 9 6;") + "well 20 0;plan 0 4 5 6;wind 0;"), NONE, NONE);
    Check.says(24, "BAD; NONE: by none.");
    taught(told("star 0 9 5;lame;well 20 0;plan 0;"), NONE, NONE);
    taught(told("well 20 0;plan 5;"), NONE, NONE);
    taught(told("well 20 0;plan 6;"), 0, 0);
    taught(told("well 20 0;plan;"), 0, 0);
    StarWalk x = told("star 0 9 6;well 20 0;");
    x.go(0);
    taught(x, NONE, NONE);
    due("BAD ahead of NONE", x.lessons(2), BAD);
  }

  private static void thirst() {
    Check.says(25, "The least WATER (0 to 40, in place of what there is) by which all AIMS of THE PLAN can be.");
    due("no aim", new StarWalk().thirst(), 0);
    due("no aim, no water", told("water 0;").thirst(), 0);
    due("no aim, hour 10", Check.rested(new StarWalk(), 10).thirst(), 0);
    for (int n = 1; n <= 8; n++) {
      due(n + " rests", told("plan" + times(n, " 6") + ";").thirst(), n);
      due(n + " rests, without water", told("water 0;plan" + times(n, " 6") + ";").thirst(), n);
      due(n + " rests, with all", told("water 99;plan" + times(n, " 6") + ";").thirst(), n);
      due(n + " hours of wind", told("wind 10;plan" + times(n, " 5") + ";").thirst(), n);
      due(n + " blind, the last with one", told("wind 0;plan" + times(n, " 5") + ";").thirst(), 2 * n - 1);
    }
    due("blind, then a rest", told("wind 0;plan 5 6;").thirst(), 3);
    Check.says(25, "NONE: by none.");
    due("the last hour", Check.rested(told("plan 6;"), 9).thirst(), 1);
    due("behind the last hour", Check.rested(told("plan 6;"), 10).thirst(), NONE);
    due("the last two hours", Check.rested(told("plan 6 6;"), 8).thirst(), 2);
    due("two in the last one", Check.rested(told("plan 6 6;"), 9).thirst(), NONE);
    due("eight from hour 2", Check.rested(told("plan 6 6 6 6 6 6 6 6;"), 2).thirst(), 8);
    due("eight from hour 3", Check.rested(told("plan 6 6 6 6 6 6 6 6;"), 3).thirst(), NONE);
  }

  private static void weather() {
    Check.says(26, "The HOURS (bits) any of which, were it (not) of CLOUD, would bring them AT THE WELL BY THE PLAN, as they are not now (0: they are).");
    for (int h = 0; h < 8; h++) {
      StarWalk x = straight(8, "well 24 0;");
      due("they are", x.weather(), 0);
      x.cloud(h, true);
      due("hour " + h + " clear", x.weather(), 1 << h);
      x.cloud((h + 1) % 8, true);
      due("two clouds too many", x.weather(), 0);
    }
    StarWalk x = Check.rested(straight(1, "well 3 0;cloud 9;"), 9);
    due("the last hour clear", x.weather(), 512);
    x.cloud(8, true);
    due("an hour that is over", x.weather(), 512);
    x.go(6);
    due("hour 10", x.weather(), 0);
    x = told("star 0 9 6;wind 10;well 3 1;plan 0;");
    due("the first hour cloudy", x.weather(), 1);
    x.set(4, 0);
    due("not even then", x.weather(), 0);
    x.set(4, 3);
    due("they are", x.weather(), 0);
    x = told("star 0 9 5;star 0 9 5;wind 10;well 6 3;plan 0 1;");
    due("either hour cloudy", x.weather(), 3);
    due("no plan", told("well 1 9;").weather(), 0);
    due("cloud is as it was", x.rule(7), 0);
  }

  // ---- clouds by odds

  private static void byTen(String what, long got, long gotBy, int up, int down) {
    int g = 1;
    for (int d = 1; d <= down; d++) {
      g = up % d == 0 && down % d == 0 ? d : g;
    }
    due(what, got, up / g);
    due(what + ", by", gotBy, down / g);
  }

  private static void lucky(StarWalk x, int v, long up, long down) {
    due("luck(" + v + ",0)", x.luck(v, 0), up);
    due("luck(" + v + ",1)", x.luck(v, 1), down);
  }

  private static void meant(StarWalk x, int v, long up, long down) {
    due("mean(" + v + ",0)", x.mean(v, 0), up);
    due("mean(" + v + ",1)", x.mean(v, 1), down);
  }

  private static void luck() {
    Check.says(27, "Each HOUR from HOUR to 9 has CLOUD by v out of ten (0 to 10), by itself, whatever it has now");
    Check.takes("v of luck", 0, 10, v -> straight(1, "").luck(v, 0));
    Check.takes("what of luck", 0, 1, what -> straight(1, "").luck(5, what));
    for (int v = 0; v <= 10; v++) {
      StarWalk x = straight(1, "well 3 0;");
      byTen("luck of one hour, " + v, x.luck(v, 0), x.luck(v, 1), 10 - v, 10);
      x.cloud(0, true);
      byTen("whatever it has now, " + v, x.luck(v, 0), x.luck(v, 1), 10 - v, 10);
      x = straight(2, "well 6 0;");
      byTen("luck of two hours, " + v, x.luck(v, 0), x.luck(v, 1), (10 - v) * (10 - v), 100);
      x = Check.rested(straight(2, "well 3 0;"), 9);
      byTen("luck of the last hour, " + v, x.luck(v, 0), x.luck(v, 1), 10 - v, 10);
      x = straight(2, "well 3 0;water 1;");
      byTen("luck of the last water, " + v, x.luck(v, 0), x.luck(v, 1), 10 - v, 10);
    }
    lucky(straight(8, "well 24 0;"), 9, 1, 100000000);
    lucky(straight(8, "well 24 0;"), 1, 43046721, 100000000);
    lucky(straight(8, "well 24 0;"), 5, 1, 256);
    Check.says(0, "Fractions are in lowest terms, the denominator above 0 (0 is 0 by 1).");
    lucky(straight(8, "well 24 0;"), 0, 1, 1);
    lucky(straight(8, "well 24 0;"), 10, 0, 1);
    lucky(straight(8, "well 25 9;"), 5, 0, 1);
    lucky(new StarWalk(), 5, 0, 1);
    lucky(Check.rested(straight(8, ""), 10), 5, 0, 1);
    StarWalk x = straight(0, "well 3 0;");
    x.go(0);
    lucky(x, 7, 1, 1);
    x.set(6, 0);
    x.plans(0);
    lucky(x, 7, 1, 1);
    meant(new StarWalk(), 5, 0, 1);
    meant(told("plan 6 6 6 6 6 6 6 6;"), 5, 0, 1);
  }

  private static void mean() {
    Check.says(28, "Likewise, the mean of MILES BY THE PLAN: 0, 1. BAD.");
    Check.takes("v of mean", 0, 10, v -> straight(1, "").mean(v, 0));
    Check.takes("what of mean", 0, 1, what -> straight(1, "").mean(5, what));
    for (int v = 0; v <= 10; v++) {
      StarWalk x = straight(1, "");
      byTen("mean of one hour, " + v, x.mean(v, 0), x.mean(v, 1), 30 - v, 10);
      x.cloud(0, true);
      byTen("whatever it has now, " + v, x.mean(v, 0), x.mean(v, 1), 30 - v, 10);
      x = straight(8, "");
      byTen("mean of eight hours, " + v, x.mean(v, 0), x.mean(v, 1), 240 - 8 * v, 10);
      x = Check.rested(straight(2, ""), 9);
      byTen("mean of the last hour, " + v, x.mean(v, 0), x.mean(v, 1), 30 - v, 10);
      x.go(0);
      byTen("at hour 10, " + v, x.mean(v, 0), x.mean(v, 1), 3, 1);
      x = straight(8, "water 0;");
      byTen("without water, " + v, x.mean(v, 0), x.mean(v, 1), 0, 1);
    }
    meant(straight(2, "water 2;"), 5, 15, 4);
  }

  public static void main(String[] args) {
    asked();
    set();
    cloudKnowTurnTeach();
    plansAndCut();
    pull();
    up();
    go();
    atTheWell();
    runs();
    next();
    best();
    front();
    lessons();
    thirst();
    weather();
    luck();
    mean();
    Check.finish(6, 28);
  }
}
