// The edges of the text: each sentence on THE TAPE, its TOKENS, lines, bounds and FAULTS, and promises 1 to 5.
public final class EdgeTextTest {
  private static final int BAD = -1, STATE = -2, FULL = -3, NONE = -4;
  private static final String[] NAMES = {
    "star", "known", "plain", "lame", "tired", "guide", "well", "wind", "water", "cloud", "plan"};
  /** What may stand behind each of NAMES, n being a NUMBER. */
  private static final String[] FORMS = {"nnn;", "n;", ";", ";", ";", ";", "nn;", "n;", "n;", "n;", ";"};

  private static void due(String what, long got, long want) {
    Check.due(what, got, want);
  }

  /** A text on a new object that is taken, with so many lines. */
  private static void taken(String text, int lines) {
    StarWalk x = new StarWalk();
    due("text() of '" + text + "'", Check.tell(x, text), lines);
    due("fault() of '" + text + "'", x.fault(), 0);
    due("the tape behind '" + text + "'", x.count(3), 0);
  }

  /** A text on a new object with a fault, whose place is marked by a ^ that is not fed. */
  private static void fault(int fault, String marked) {
    int place = marked.indexOf('^');
    StarWalk x = new StarWalk();
    due("text() of '" + marked + "'", Check.tell(x, marked.substring(0, place) + marked.substring(place + 1)), -10 - place);
    due("fault() of '" + marked + "'", x.fault(), fault);
    due("the tape behind '" + marked + "'", x.count(3), 0);
    asFirst(x);
  }

  private static void asFirst(StarWalk x) {
    int[] first = {0, 0, 0, 20, 2, 3, 20, 0, 0, 0, 1000, 0, 0};
    for (int what = 0; what < first.length; what++) {
      due("rule(" + what + ") at first", x.rule(what), first[what]);
    }
    due("known at first", x.count(0), 0);
    due("seen at first", x.count(1), 0);
    due("images at first", x.count(2), 0);
  }

  // ---- a new object, the tape

  private static void newObject() {
    Check.says(0, "Answers: BAD -1");
    due("BAD", StarWalk.BAD, -1);
    Check.says(0, "STATE -2 (as told), FULL -3, NONE -4 (there is none)");
    due("STATE", StarWalk.STATE, -2);
    due("FULL", StarWalk.FULL, -3);
    due("NONE", StarWalk.NONE, -4);
    Check.says(1, "No STARS, nobody; SHEETS of nothing.");
    StarWalk x = new StarWalk();
    asFirst(x);
    due("star(0,0)", x.star(0, 0), BAD);
    due("walker(0)", x.walker(0), BAD);
    due("plan(0)", x.plan(0), BAD);
    due("count(4)", x.count(4), NONE);
    for (int k = 0; k < 4; k++) {
      due("lay on sheet " + k, x.lay(k, 0, 0), -11);
    }
    Check.says(0, "(1 to 40; 20 at first)");
    due("rule(3)", new StarWalk().rule(3), 20);
    Check.says(0, "how BROAD (0 to 9; 2)");
    due("rule(4)", new StarWalk().rule(4), 2);
    Check.says(0, "TILL which hour it blows (0 to 10; 3)");
    due("rule(5)", new StarWalk().rule(5), 3);
    Check.says(0, "WATER (0 to 99; 20)");
    due("rule(6)", new StarWalk().rule(6), 20);
    Check.says(0, "CLOUD in some HOURS (bits 0 to 9; none)");
    due("rule(7)", new StarWalk().rule(7), 0);
    Check.says(0, "all 0 at first");
    Check.at(new StarWalk(), 0, 0, 0, 20);
    Check.says(5, "The FAULT of the latest text(); 0.");
    due("fault() ahead of all text", new StarWalk().fault(), 0);
    Check.says(40, "The FAULT of the latest read() that came to an end; 0.");
    due("torn() ahead of all read", new StarWalk().torn(), 0);
  }

  private static void feed() {
    Check.says(2, "A byte (0 to 127)");
    Check.takes("feed", 0, 127, c -> new StarWalk().feed(c));
    Check.says(2, "how many it has");
    StarWalk x = new StarWalk();
    for (int i = 1; i <= 159; i++) {
      due("feed number " + i, x.feed(' '), i);
    }
    Check.says(2, "FULL: more than 160.");
    due("the 160th", x.feed(';'), 160);
    due("the 161st", x.feed(' '), FULL);
    due("bytes", x.count(3), 160);
    Check.says(0, "the first that fits");
    due("no byte, on a full tape", x.feed(128), BAD);
    due("no byte, on a full tape", x.feed(-1), BAD);
    due("the text is of the 160 bytes: its last is ;", x.text(), -10 - 159);
    due("a ; can not stand there", x.fault(), 2);
    due("the tape is empty then", x.feed(' '), 1);
  }

  private static void end() {
    Check.says(3, "THE TAPE keeps its first n bytes: how many it had.");
    StarWalk x = new StarWalk();
    due("end(0) of an empty tape", x.end(0), 0);
    Check.feedAll(x, "lame;guide;");
    due("all bytes are kept", x.end(11), 11);
    due("first five", x.end(5), 11);
    due("five are left", x.end(5), 5);
    Check.feedAll(x, "tired;");
    due("two lines", x.text(), 2);
    due("the first stays", x.walker(0), 1);
    due("the second is what came behind", x.walker(1), 2);
    Check.feedAll(x, "plain;");
    due("none is kept", x.end(0), 6);
    due("an empty text", x.text(), 0);
    Check.says(3, "BAD.");
    Check.takes("end", 0, 4, n -> {
      StarWalk y = new StarWalk();
      Check.feedAll(y, "lame");
      return y.end(n);
    });
    due("end(1) of an empty tape", new StarWalk().end(1), BAD);
    StarWalk full = new StarWalk();
    Check.feedAll(full, " ".repeat(160));
    due("end(161) of a full tape", full.end(161), BAD);
    due("end(160) of a full tape", full.end(160), 160);
    due("end(159) of a full tape", full.end(159), 160);
    due("a byte has room again", full.feed(' '), 160);
    due("and no more", full.feed(' '), FULL);
  }

  // ---- tokens

  private static void tokens() {
    Check.says(0, "blanks (32) between");
    taken(" ", 0);
    taken("  plain  ;  lame;  ", 2);
    fault(2, "^pl ain;");
    fault(2, "water 1 ^2;");
    Check.says(0, "each as long as may be");
    taken("plain;lame;", 2);
    taken("star0 9 6;well40 9;wind10;water99;cloud9;", 5);
    fault(2, "^plainlame;");
    fault(2, "water 1^a;");
    fault(2, "plan1^plan;");
    Check.says(0, "NAMES (a .. z)");
    fault(2, "^a;");
    fault(2, "^z;");
    fault(1, "^`;");
    fault(1, "^{;");
    fault(1, "^Plain;");
    fault(1, "plain^N;");
    Check.says(0, "NUMBERS (1 or 2 figures)");
    taken("water 0;", 1);
    taken("water 9;", 1);
    taken("water 00;", 1);
    due("09 is 9", Check.told("water 09;").rule(6), 9);
    due("90 is 90", Check.told("water 90;").rule(6), 90);
    fault(1, "water ^/;");
    fault(1, "water ^:;");
    fault(1, "water ^-1;");
    Check.says(0, "one ;");
    fault(2, "plain;^;");
    fault(2, "^;");
    Check.says(0, "text: { line }");
    taken("", 0);
    taken(" ".repeat(160), 0);
    taken(" ".repeat(154) + "plain;", 1);
    taken("plain;" + " ".repeat(154), 1);
  }

  /** Behind a whole line, each byte that there is, alone. */
  private static void faultOne() {
    Check.says(0, "1 no TOKEN");
    for (int c = 0; c < 128; c++) {
      String text = "plain;" + (char) c;
      if (c == ' ') {
        taken(text, 1);
        continue;
      }
      boolean isToken = c == ';' || c >= '0' && c <= '9' || c >= 'a' && c <= 'z';
      fault(isToken ? 2 : 1, "plain;^" + (char) c);
    }
    Check.says(0, "a NUMBER that is too long (its first byte)");
    taken("water 99;", 1);
    fault(1, "water ^100;");
    fault(1, "water ^000;");
    fault(1, "water   ^0099;");
    fault(1, "^123;");
    fault(1, "plain ^123;");
    fault(1, "star 1 ^111 1;");
    fault(1, "^" + "1".repeat(160));
    fault(1, "plan 1 1 1 1 1 1 1 1 ^111;");
    Check.says(0, "a TOKEN is read when the one before has been taken");
    fault(2, "^foo $");
    fault(2, "^foo 123");
    fault(3, "known ^5 $");
    fault(3, "known ^5$");
    fault(4, "wind 1;^wind $");
    fault(5, "plain;lame;tired;^guide$");
    fault(1, "plain ^$");
  }

  /** A form's beginning, with numbers that may stand there. */
  private static String begun(String name, String form, int tokens) {
    StringBuilder b = new StringBuilder(name);
    for (int i = 0; i < tokens; i++) {
      b.append(form.charAt(i) == ';' ? " ;" : " 1");
    }
    return b.append(' ').toString();
  }

  private static void faultTwo() {
    Check.says(0, "2 a TOKEN that can not stand there");
    for (int i = 0; i < NAMES.length; i++) {
      for (int p = 0; p < FORMS[i].length(); p++) {
        String begun = begun(NAMES[i], FORMS[i], p);
        boolean isNumber = FORMS[i].charAt(p) == 'n';
        boolean isPlan = NAMES[i].equals("plan");
        fault(2, begun + "^plain;");
        if (isNumber) {
          fault(2, begun + "^;");
        } else if (!isPlan) {
          fault(2, begun + "^1;");
        }
        fault(2, begun + "^");
        fault(2, begun.trim() + "^");
      }
    }
    fault(2, "plan 5 ^plain;");
    fault(2, "plan 5 6^");
    fault(2, "plan 5 5 5 5 5 5 5 5 ^plan");
    fault(2, "plan 5 5 5 5 5 5 5 5^");
    fault(2, "^1;");
    Check.says(0, "a NAME that begins no line");
    for (String name : NAMES) {
      if (!name.equals("plain")) {
        fault(2, "^" + name.substring(0, name.length() - 1) + ";");
      }
      fault(2, "^" + name + "a;");
      fault(2, "^" + name.substring(0, name.length() - 1) + "q;");
      fault(2, "^q" + name.substring(1) + ";");
      fault(2, "plain;^q;");
    }
    fault(2, "^plai;");
    Check.says(0, "or the end: the length");
    fault(2, "plain^");
    fault(2, "plain   ^");
    fault(2, "plain" + " ".repeat(155) + "^");
    fault(2, "^" + "a".repeat(160));
  }

  // ---- bounds

  /** Where the ? stands, each number from least to most is taken, of one figure or two; all others up to 99 are fault 3. */
  private static void bounds(String line, int least, int most) {
    int place = line.indexOf('?');
    for (int v = 0; v <= 99; v++) {
      String before = line.substring(0, place);
      String behind = line.substring(place + 1);
      if (v >= least && v <= most) {
        taken(before + v + behind, 1);
        taken(before + v / 10 + v % 10 + behind, 1);
      } else {
        fault(3, before + "^" + v + behind);
        fault(3, before + "^" + v / 10 + v % 10 + behind);
        fault(3, before + "^" + v);
      }
    }
  }

  private static void faultThree() {
    Check.says(0, "3 a NUMBER out of its bounds (TO: less than FROM)");
    bounds("star ? 9 3;", 0, 9);
    bounds("star 0 ? 3;", 0, 9);
    bounds("star 5 ? 3;", 5, 9);
    bounds("star 9 ? 3;", 9, 9);
    bounds("star 0 0 ?;", 0, 6);
    bounds("well ? 0;", 1, 40);
    bounds("well 1 ?;", 0, 9);
    bounds("wind ?;", 0, 10);
    bounds("water ?;", 0, 99);
    bounds("cloud ?;", 0, 9);
    bounds("plan 5 ? 5;", 5, 6, 0, 4);
    Check.says(0, "known: a STAR (0 to 4)");
    String five = "star 0 0 0;star 0 0 0;star 0 0 0;star 0 0 0;star 0 0 0;";
    for (int s = 0; s <= 4; s++) {
      StarWalk x = Check.told(five + "known " + s + ";");
      due("that one is known", x.star(s, 3), 1);
      due("and no other", x.count(0), 1);
    }
    fault(3, five + "known ^5;");
    fault(3, five + "known ^05;");
    fault(3, "known ^99;");
    Check.says(0, "star: a STAR more: FROM, TO (no less), OFF.");
    StarWalk x = Check.told("star 4 4 0;star 0 9 6;");
    int[][] want = {{4, 4, 0, 0}, {0, 9, 6, 0}};
    for (int s = 0; s < 2; s++) {
      for (int what = 0; what < 4; what++) {
        due("star(" + s + "," + what + ")", x.star(s, what), want[s][what]);
      }
    }
    Check.says(0, "well: MILES, BROAD. wind: TILL. water: WATER.");
    x = Check.told("well 40 9;wind 10;water 99;");
    due("miles", x.rule(3), 40);
    due("broad", x.rule(4), 9);
    due("till", x.rule(5), 10);
    due("water", x.rule(6), 99);
    x = Check.told("well 1 0;wind 0;water 0;");
    due("miles", x.rule(3), 1);
    due("broad", x.rule(4), 0);
    due("till", x.rule(5), 0);
    due("water", x.rule(6), 0);
    Check.says(0, "cloud: an HOUR (0 to 9) of CLOUD.");
    StringBuilder all = new StringBuilder();
    for (int h = 0; h < 10; h++) {
      due("cloud " + h, Check.told("cloud " + h + ";").rule(7), 1 << h);
      all.append("cloud ").append(h).append(';');
    }
    due("all hours", Check.told(all.toString()).rule(7), 1023);
  }

  /** AIMS without stars: those from least to most are taken, from least6 to most6 there is no such STAR, all else is fault 3. */
  private static void bounds(String line, int least, int most, int least6, int most6) {
    int place = line.indexOf('?');
    String before = line.substring(0, place);
    String behind = line.substring(place + 1);
    for (int v = 0; v <= 99; v++) {
      if (v >= least && v <= most) {
        taken(before + v + behind, 1);
      } else if (v >= least6 && v <= most6) {
        fault(6, before + v + behind + "^");
      } else {
        fault(3, before + "^" + v + behind);
      }
    }
  }

  private static void faultFour() {
    Check.says(0, "4 well, wind, water, plan for the second time (its NAME)");
    String[] once = {"well 1 1;", "wind 1;", "water 1;", "plan;"};
    for (String line : once) {
      taken(line, 1);
      fault(4, line + "^" + line);
      fault(4, line + "plain;^" + line);
      fault(4, line + "^" + line.substring(0, line.length() - 1));
      fault(4, line + "^" + line.replaceAll("[^a-z]", ""));
    }
    taken("well 1 1;wind 1;water 1;plan;", 4);
    fault(4, "plan 5 5 5 5 5 5 5 5;^plan");
    StarWalk x = Check.told("well 1 1;wind 1;water 1;plan;");
    due("the first time again in another text", Check.tell(x, "well 2 2;wind 2;water 2;plan 5;"), 4);
    Check.says(0, "a STAR that is KNOWN, an HOUR of CLOUD already (it)");
    fault(4, "known 0;known ^0;");
    fault(4, "known 4;known 0;known ^04");
    fault(4, "star 0 0 0;known 0;known ^0 $");
    taken("star 0 0 0;star 0 0 0;known 1;known 0;", 4);
    fault(4, "cloud 0;cloud ^0;");
    fault(4, "cloud 9;cloud 0;cloud ^09");
    taken("cloud 9;cloud 0;cloud 8;", 3);
    x = Check.told("star 0 0 0;known 0;cloud 3;");
    due("known and cloudy before the text", Check.tell(x, "star 0 0 0;known 0;cloud 3;"), 3);
  }

  private static void faultFive() {
    Check.says(0, "STARS 0 on (5 at most, by order)");
    StringBuilder stars = new StringBuilder();
    for (int s = 0; s < 5; s++) {
      stars.append("star ").append(s).append(" 9 ").append(s).append(';');
      taken(stars.toString(), s + 1);
    }
    StarWalk x = Check.told(stars.toString());
    for (int s = 0; s < 5; s++) {
      due("star(" + s + ",0)", x.star(s, 0), s);
      due("star(" + s + ",2)", x.star(s, 2), s);
    }
    due("stars", x.rule(0), 5);
    Check.says(0, "5 the 6th star, the 4th WALKER (its NAME)");
    fault(5, stars + "^star 0 0 0;");
    fault(5, stars + "^star");
    fault(5, stars + "^star 99 $");
    fault(5, stars + "plain;  ^star 0 0 0;");
    Check.says(0, "WALKERS 0 on (3 at most, by order)");
    taken("plain;", 1);
    taken("plain;lame;", 2);
    taken("plain;lame;tired;", 3);
    x = Check.told("guide;tired;lame;");
    for (int w = 0; w < 3; w++) {
      due("walker(" + w + ")", x.walker(w), 3 - w);
    }
    due("walkers", x.rule(1), 3);
    for (int i = 2; i <= 5; i++) {
      fault(5, "guide;tired;lame;^" + NAMES[i] + ";");
      fault(5, "guide;tired;lame;^" + NAMES[i]);
      fault(5, "plain;plain;wind 1;plain;^" + NAMES[i] + " $");
    }
    Check.says(0, "AIMS, one behind another (8 at most)");
    StringBuilder plan = new StringBuilder("plan");
    for (int i = 0; i <= 8; i++) {
      x = Check.told(plan + ";");
      due("aims", x.rule(12), i);
      plan.append(i % 2 == 0 ? " 5" : " 6");
    }
    for (int i = 0; i < 8; i++) {
      due("plan(" + i + ")", x.plan(i), 5 + i % 2);
    }
    Check.says(0, "a 9th AIM (it)");
    fault(5, "plan 5 5 5 5 5 5 5 5 ^5;");
    fault(5, "plan 5 5 5 5 5 5 5 5 ^6 5");
    fault(5, "plan 0 0 0 0 0 0 0 0 ^0 $");
    fault(5, "plan 0 0 0 0 0 0 0 0 ^06");
    fault(3, "plan 5 5 5 5 5 5 5 5 ^7;");
  }

  private static void faultSix() {
    Check.says(0, "Behind all (the length): 6 a STAR that there is not.");
    fault(6, "known 0;^");
    fault(6, "known 4;   ^");
    fault(6, "star 0 0 0;known 1;plain;^");
    taken("star 0 0 0;known 0;", 2);
    taken("known 0;star 0 0 0;", 2);
    fault(6, "plan 0;^");
    fault(6, "plan 5 6 5 4;^");
    fault(6, "plan 5 5 5 5 5 5 5 0;^");
    fault(6, "star 0 0 0;plan 0 1;^");
    taken("star 0 0 0;plan 0 0;", 2);
    taken("plan 0 0;star 0 0 0;", 2);
    taken("plan 5 6;", 1);
    String four = "star 0 0 0;star 0 0 0;star 0 0 0;star 0 0 0;";
    fault(6, four + "known 4;^");
    fault(6, four + "plan 4;^");
    taken(four + "known 3;plan 3;", 6);
    taken("known 4;plan 4;star 0 0 0;" + four, 7);
    Check.says(0, "the first met as it is read");
    fault(1, "known 0;^$");
    fault(2, "known 0;plain^");
    fault(3, "plan 0;wind ^11;");
    fault(4, "plan 0;^plan;");
    fault(3, "star ^10 10 10;");
    fault(3, "star 9 ^8 7;");
    String length = "known 0;" + " ".repeat(152);
    fault(6, length + "^");
  }

  // ---- what a text does

  private static StarWalk walked() {
    StarWalk x = Check.told("star 1 2 4;lame;tired;well 30 5;wind 7;water 8;cloud 4;plan 0 5 6;known 0;");
    x.set(2, 1);
    x.go(6);
    x.go(0);
    x.see(0, 0);
    x.keep(0);
    x.keep(1);
    return x;
  }

  private static void text() {
    Check.says(4, "THE TAPE (empty then) tells all: how many lines");
    taken("plain;", 1);
    taken("plan;plain;", 2);
    StarWalk x = new StarWalk();
    due("a text", Check.tell(x, "plain;"), 1);
    due("the tape is empty behind a text", x.feed('q'), 1);
    due("a text with a fault", x.text(), -10);
    due("the tape is empty behind a fault", x.feed(' '), 1);
    StringBuilder most = new StringBuilder("plain;plain;plain;plan;wind 1;water 1;well 1 1;");
    for (int h = 0; h < 10; h++) {
      most.append("cloud ").append(h).append(';');
    }
    taken(most.toString(), 17);
    Check.says(4, "-10 less the place of its FAULT: that which was told stays.");
    fault(2, "^q");
    fault(2, "plain" + " ".repeat(155) + "^");
    String[] faulty = {"$", "plain;q;", "wind 11;", "wind 1;wind 1;", "plain;plain;plain;plain;", "known 0;"};
    for (int f = 0; f < faulty.length; f++) {
      x = walked();
      Check.isTrue("a text with a fault", Check.tell(x, faulty[f]) < 0);
      due("which is", x.fault(), f + 1);
      int[] stays = {1, 2, 1, 30, 5, 7, 6, 16, 2, 3, 1001, 0, 3};
      for (int what = 0; what < stays.length; what++) {
        due("rule(" + what + ") stays", x.rule(what), stays[what]);
      }
      due("known stays", x.count(0), 1);
      due("seen stays", x.count(1), 1);
      due("images stay", x.count(2), 2);
    }
    Check.says(0, "A text that is taken tells all, in place of what there was; nothing is SEEN; IMAGES are gone.");
    String[] good = {"", " "};
    for (String text : good) {
      x = walked();
      due("a text of no lines", Check.tell(x, text), 0);
      asFirst(x);
      due("back(0)", x.back(0), STATE);
      due("back(1)", x.back(1), STATE);
    }
    x = walked();
    x.cloud(9, true);
    x.keep(0);
    due("a text", Check.tell(x, "star 0 9 0;tired;"), 2);
    int[] then = {1, 1, 0, 20, 2, 3, 20, 0, 0, 0, 1000, 0, 0};
    for (int what = 0; what < then.length; what++) {
      due("rule(" + what + ")", x.rule(what), then[what]);
    }
    due("not known", x.star(0, 3), 0);
    due("nothing seen", x.count(1), 0);
    due("no image", x.count(2), 0);
    due("keep(0)", x.keep(0), 0);
    Check.says(0, "KNOWN or not (not)");
    due("not known", Check.told("star 0 0 0;").star(0, 3), 0);
    Check.says(0, "who is in FRONT (WALKER 0 at first)");
    due("front", Check.told("plain;lame;").rule(2), 0);
    due("front of nobody", new StarWalk().rule(2), 0);
    Check.says(0, "each of a KIND (0 plain, 1 lame, 2 tired, 3 guide)");
    for (int kind = 0; kind < 4; kind++) {
      due(NAMES[2 + kind], Check.told(NAMES[2 + kind] + ";").walker(0), kind);
    }
  }

  private static void latestFault() {
    Check.says(5, "The FAULT of the latest text(); 0.");
    StarWalk x = new StarWalk();
    String[] faulty = {"$", "q", "wind 11;", "plan;plan;", "plain;plain;plain;plain;", "known 0;"};
    for (int f = 0; f < faulty.length; f++) {
      Check.tell(x, faulty[f]);
      due("fault()", x.fault(), f + 1);
      due("fault() again", x.fault(), f + 1);
      Check.feedAll(x, "plain");
      due("fault() with no text since", x.fault(), f + 1);
      due("end", x.end(0), 5);
    }
    due("a text that is taken", x.text(), 0);
    due("fault()", x.fault(), 0);
  }

  public static void main(String[] args) {
    newObject();
    feed();
    end();
    tokens();
    faultOne();
    faultTwo();
    faultThree();
    faultFour();
    faultFive();
    faultSix();
    text();
    latestFault();
    Check.finish(1, 5);
  }
}
