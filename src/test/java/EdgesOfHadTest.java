/** Promises 14 to 23 at their edges: a test for each sentence of the document that names one. */
public final class EdgesOfHadTest {
  private static final int[] FAR = {-1, -2, -9, Integer.MIN_VALUE, Integer.MAX_VALUE};

  public static void main(String[] args) {
    p14PartsOneToLast();
    p14ItIs();
    p14None();
    p14TheLastThatComes();
    p15Whats();
    p15TheLeastAndTheMost();
    p15StartsOfEachStrip();
    p16LeftAndRight();
    p16Twelve();
    p16BadComesAheadOfFull();
    p17NoneAndTwelve();
    p18Whats();
    p18WithoutLetters();
    p18None();
    p18TheFirstAndTheLastStrip();
    p18OfOneLetterMore();
    p19None();
    p19TheFirstAndTheTwelfth();
    p20Whats();
    p20WithoutLetters();
    p20TwelveLetters();
    p20LeastTerms();
    p21PartsOneToLast();
    p21Eight();
    p21BadComesAheadOfFull();
    p22NoneAndEight();
    p23Whats();
    p23NothingSeen();
    p23NoFoldAndTwenty();
    p23OneTwiceIsOne();
    p23EightOfARing();
    p23TwoRings();
    Due.end();
  }

  private static GuessFolds withLetters(String text, String letters) {
    GuessFolds x = Due.told(text);
    for (int i = 0; i < letters.length(); i++) {
      Due.is("letter", x.letter(letters.charAt(i) == 'R' ? 1 : 0), i + 1);
    }
    return x;
  }

  private static GuessFolds whoSaw(String text, int... seen) {
    GuessFolds x = Due.told(text);
    for (int i = 0; i < seen.length; i++) {
      Due.is("saw(" + seen[i] + ")", x.saw(seen[i]), i + 1);
    }
    return x;
  }

  // ---- fewest

  private static void p14PartsOneToLast() {
    for (int parts = 3; parts <= 63; parts += 2) {
      GuessFolds x = Due.told("strip " + parts + ";part " + (parts - 1) + ";");
      Due.is("fewest(0)", x.fewest(0), GuessFolds.BAD);
      Due.is("fewest(last)", x.fewest(parts - 1), 0);
      Due.is("fewest(PARTS)", x.fewest(parts), GuessFolds.BAD);
      for (int far : FAR) {
        Due.is("fewest(" + far + ")", x.fewest(far), GuessFolds.BAD);
      }
    }
  }

  private static void p14ItIs() {
    for (int part = 1; part < 63; part++) {
      Due.is("fewest(" + part + ")", Due.told("strip 63;part " + part + ";").fewest(part), 0);
    }
  }

  private static void p14None() {
    GuessFolds x = Due.told("strip 7;part 1;");
    int[] folds = {0, 2, GuessFolds.NONE, 1, GuessFolds.NONE, GuessFolds.NONE};
    for (int j = 1; j < 7; j++) {
      Due.is("fewest(" + j + ") from 1 by 7", x.fewest(j), folds[j - 1]);
    }
  }

  /** The last of a ring is the one that the rule brings to the guess. */
  private static void p14TheLastThatComes() {
    Due.is("fewest(2) from 1 by 3", Due.told("strip 3;").fewest(2), 1);
    Due.is("fewest(2) from 1 by 61", Due.told("strip 61;").fewest(2), 59);
    Due.is("fewest(2) from 1 by 59", Due.told("strip 59;").fewest(2), 57);
    Due.is("fewest(2) from 1 by 63", Due.told("strip 63;").fewest(2), 5);
  }

  // ---- comes

  private static void p15Whats() {
    GuessFolds x = new GuessFolds();
    for (int far : FAR) {
      Due.is("comes(" + far + ")", x.comes(far), GuessFolds.BAD);
    }
    Due.is("comes(2)", x.comes(2), GuessFolds.BAD);
  }

  private static void p15TheLeastAndTheMost() {
    Due.is("comes(0) of 21 by 63", Due.told("strip 63;part 21;").comes(0), 2);
    Due.is("comes(0) of 1 by 61", Due.told("strip 61;").comes(0), 60);
    Due.is("comes(1) of 61", Due.told("strip 61;").comes(1), 1);
    Due.is("comes(1) of 63", Due.told("strip 63;").comes(1), 12);
  }

  /** Each ring is guessed once: parts that are the least of their own. */
  private static void p15StartsOfEachStrip() {
    for (int parts = 3; parts <= 63; parts += 2) {
      int starts = 0;
      for (int j = 1; j < parts; j++) {
        int least = j;
        for (int at = 2 * j % parts; at != j; at = 2 * at % parts) {
          least = Math.min(least, at);
        }
        starts += least == j ? 1 : 0;
      }
      GuessFolds x = Due.told("strip " + parts + ";part " + (parts - 1) + ";");
      Due.is("comes(1) of " + parts, x.comes(1), starts);
      Due.is("comes(0) of the last by " + parts, x.comes(0), x.round(parts - 1));
    }
  }

  // ---- letters

  private static void p16LeftAndRight() {
    GuessFolds x = new GuessFolds();
    for (int far : FAR) {
      Due.is("letter(" + far + ")", x.letter(far), GuessFolds.BAD);
    }
    Due.is("letter(2)", x.letter(2), GuessFolds.BAD);
    Due.is("count(1)", x.count(1), 0);
    Due.is("letter(0)", x.letter(0), 1);
    Due.is("letter(1)", x.letter(1), 2);
  }

  private static void p16Twelve() {
    GuessFolds x = withLetters("", "RRLLRRLLRRLL");
    Due.is("letter(1) of the 13th", x.letter(1), GuessFolds.FULL);
    Due.is("letter(0) of the 13th", x.letter(0), GuessFolds.FULL);
    Due.is("count(1)", x.count(1), 12);
    Due.is("wrong(): no letter was changed", x.wrong(), GuessFolds.NONE);
    x.hush();
    Due.is("letter(0) behind hush()", x.letter(0), 1);
  }

  private static void p16BadComesAheadOfFull() {
    GuessFolds x = withLetters("", "RRLLRRLLRRLL");
    Due.is("letter(2)", x.letter(2), GuessFolds.BAD);
    Due.is("letter(-1)", x.letter(-1), GuessFolds.BAD);
  }

  private static void p17NoneAndTwelve() {
    GuessFolds x = new GuessFolds();
    Due.is("hush() of none", x.hush(), 0);
    GuessFolds y = withLetters("", "RRRRRRRRRRRR");
    Due.is("hush() of twelve", y.hush(), 12);
    Due.is("count(1)", y.count(1), 0);
    Due.is("hush() again", y.hush(), 0);
    Due.is("meant(0) behind hush()", y.meant(0), 992);
  }

  // ---- meant

  private static void meant(String letters, int pairs, int parts, int part) {
    GuessFolds x = withLetters("strip 63;part 62;", letters);
    Due.is("meant(0) of " + letters, x.meant(0), pairs);
    Due.is("meant(1) of " + letters, x.meant(1), parts);
    Due.is("meant(2) of " + letters, x.meant(2), part);
  }

  private static void p18Whats() {
    GuessFolds x = new GuessFolds();
    for (int far : FAR) {
      Due.is("meant(" + far + ")", x.meant(far), GuessFolds.BAD);
    }
    Due.is("meant(3)", x.meant(3), GuessFolds.BAD);
  }

  private static void p18WithoutLetters() {
    meant("", 992, 3, 1);
  }

  private static void p18None() {
    meant("LLLLLL", 0, GuessFolds.NONE, GuessFolds.NONE);
    meant("RRRRRR", 0, GuessFolds.NONE, GuessFolds.NONE);
    meant("RRRRRRRRRRRR", 0, GuessFolds.NONE, GuessFolds.NONE);
  }

  /** Five times LEFT wants 32, which 33 parts have first; five times RIGHT is the same from the other end. */
  private static void p18TheFirstAndTheLastStrip() {
    meant("L", 496, 3, 2);
    meant("R", 496, 3, 1);
    meant("LLLLL", 16, 33, 32);
    meant("RRRRR", 16, 33, 1);
    // 62 by 63, the last pair of all: left once and right five times, then it comes round.
    meant("LRRRRRLRRRRR", 1, 63, 62);
    meant("RLLLLLRLLLLL", 1, 63, 1);
  }

  /** A row is meant for those pairs of which it is longer by either letter, together. */
  private static void p18OfOneLetterMore() {
    String[] rows = {"", "R", "L", "RL", "LR", "RRL", "LLR", "RRLL", "RLRLR", "LLLRRR"};
    for (String row : rows) {
      int ofBoth = withLetters("", row + "L").meant(0) + withLetters("", row + "R").meant(0);
      Due.is("meant(0) of " + row, withLetters("", row).meant(0), ofBoth);
    }
  }

  // ---- wrong

  private static void p19None() {
    Due.is("wrong() without letters", new GuessFolds().wrong(), GuessFolds.NONE);
    Due.is("wrong() of twelve right ones", withLetters("", "RRLLRRLLRRLL").wrong(), GuessFolds.NONE);
    Due.is("wrong() of twelve right ones", withLetters("strip 63;part 62;", "LRRRRRLRRRRR").wrong(), GuessFolds.NONE);
  }

  private static void p19TheFirstAndTheTwelfth() {
    Due.is("wrong() of the only one", withLetters("", "L").wrong(), 0);
    Due.is("wrong() of all", withLetters("", "LLLLLLLLLLLL").wrong(), 0);
    Due.is("wrong() of the twelfth", withLetters("", "RRLLRRLLRRLR").wrong(), 11);
    for (int i = 0; i < 12; i++) {
      StringBuilder row = new StringBuilder("RRLLRRLLRRLL");
      row.setCharAt(i, row.charAt(i) == 'R' ? 'L' : 'R');
      Due.is("wrong() of " + row, withLetters("", row.toString()).wrong(), i);
      Due.is("wrong() of " + row.substring(0, i), withLetters("", row.substring(0, i)).wrong(), GuessFolds.NONE);
    }
  }

  // ---- got

  private static void got(String text, String letters, long upper, long lower) {
    GuessFolds x = withLetters(text, letters);
    Due.fraction("got() of " + text + letters, x.got(0), x.got(1), upper, lower);
  }

  private static void p20Whats() {
    GuessFolds x = new GuessFolds();
    for (int far : FAR) {
      Due.is("got(" + far + ")", x.got(far), GuessFolds.BAD);
    }
    Due.is("got(2)", x.got(2), GuessFolds.BAD);
  }

  private static void p20WithoutLetters() {
    got("", "", 1, 5);
    got("strip 63;part 62;", "", 62, 63);
    got("strip 3;part 2;", "", 2, 3);
    GuessFolds x = withLetters("", "RL");
    x.hush();
    Due.fraction("got() behind hush()", x.got(0), x.got(1), 1, 5);
  }

  private static void p20TwelveLetters() {
    got("strip 63;part 62;", "LLLLLLLLLLLL", 31, 63L << 11);
    got("strip 63;part 1;", "LLLLLLLLLLLL", 1, 63L << 12);
    got("strip 63;part 1;", "RRRRRRRRRRRR", (63L << 11) - 31, 63L << 11);
    got("strip 61;part 60;", "RRRRRRRRRRRR", (61L << 12) - 1, 61L << 12);
    got("strip 63;part 62;", "LRRRRRLRRRRR", 62, 63);
  }

  private static void p20LeastTerms() {
    got("strip 63;part 21;", "", 1, 3);
    got("strip 63;part 42;", "L", 1, 3);
    got("strip 9;part 6;", "R", 5, 6);
    got("strip 15;part 5;", "R", 2, 3);
  }

  // ---- seen

  private static void p21PartsOneToLast() {
    for (int parts = 3; parts <= 63; parts += 2) {
      GuessFolds x = Due.told("strip " + parts + ";");
      Due.is("saw(0)", x.saw(0), GuessFolds.BAD);
      Due.is("saw(PARTS)", x.saw(parts), GuessFolds.BAD);
      for (int far : FAR) {
        Due.is("saw(" + far + ")", x.saw(far), GuessFolds.BAD);
      }
      Due.is("count(2)", x.count(2), 0);
      Due.is("saw(1)", x.saw(1), 1);
      Due.is("saw(last)", x.saw(parts - 1), 2);
    }
  }

  private static void p21Eight() {
    GuessFolds x = whoSaw("", 1, 1, 1, 1, 1, 1, 1, 1);
    Due.is("saw(1) of the ninth", x.saw(1), GuessFolds.FULL);
    Due.is("saw(3) of the ninth", x.saw(3), GuessFolds.FULL);
    Due.is("count(2)", x.count(2), 8);
    Due.is("from(0): 3 was not seen", x.from(0), 1);
    x.forget();
    Due.is("saw(3) behind forget()", x.saw(3), 1);
  }

  private static void p21BadComesAheadOfFull() {
    GuessFolds x = whoSaw("", 1, 2, 3, 4, 1, 2, 3, 4);
    Due.is("saw(0)", x.saw(0), GuessFolds.BAD);
    Due.is("saw(5)", x.saw(5), GuessFolds.BAD);
    Due.is("saw(-1)", x.saw(-1), GuessFolds.BAD);
  }

  private static void p22NoneAndEight() {
    GuessFolds x = new GuessFolds();
    Due.is("forget() of nothing", x.forget(), 0);
    GuessFolds y = whoSaw("", 1, 2, 3, 4, 1, 2, 3, 4);
    Due.is("forget() of eight", y.forget(), 8);
    Due.is("count(2)", y.count(2), 0);
    Due.is("forget() again", y.forget(), 0);
    Due.is("from(0) behind forget()", y.from(0), 0);
  }

  // ---- from

  private static void from(GuessFolds x, int ways, int least) {
    Due.is("from(0)", x.from(0), ways);
    Due.is("from(1)", x.from(1), least);
  }

  private static void p23Whats() {
    GuessFolds x = whoSaw("", 1);
    for (int far : FAR) {
      Due.is("from(" + far + ")", x.from(far), GuessFolds.BAD);
    }
    Due.is("from(2)", x.from(2), GuessFolds.BAD);
  }

  /** The guess itself always comes, so there is no way to nothing. */
  private static void p23NothingSeen() {
    from(new GuessFolds(), 0, GuessFolds.NONE);
    from(Due.told("strip 63;part 62;"), 0, GuessFolds.NONE);
  }

  /** One alone comes by no fold; both of a ring of two by 1 to 20 folds, from either. */
  private static void p23NoFoldAndTwenty() {
    from(whoSaw("strip 3;", 1), 1, 1);
    from(whoSaw("strip 3;", 2), 1, 2);
    from(whoSaw("strip 3;", 2, 1), 40, 1);
    from(whoSaw("", 1, 2, 3, 4), 4 * 18, 1);
    from(whoSaw("strip 63;", 62), 1, 62);
  }

  private static void p23OneTwiceIsOne() {
    from(whoSaw("", 4, 4, 4, 4, 4, 4, 4, 4), 1, 4);
    from(whoSaw("strip 3;", 1, 2, 1, 2, 1, 2, 1, 2), 40, 1);
  }

  /** A ring of eight, seen whole; and eight of a longer one. */
  private static void p23EightOfARing() {
    from(whoSaw("strip 17;", 8, 4, 2, 1, 9, 13, 15, 16), 8 * 14, 1);
    from(whoSaw("strip 61;", 1, 31, 46, 23, 42, 21, 41, 51), 1, 1);
    from(whoSaw("strip 61;", 31, 46, 23, 42, 21, 41, 51), 1, 31);
    from(whoSaw("strip 61;", 1, 31, 46, 42, 21, 41, 51), 0, GuessFolds.NONE);
  }

  private static void p23TwoRings() {
    from(whoSaw("strip 7;", 1, 3), 0, GuessFolds.NONE);
    from(whoSaw("strip 7;", 1, 2, 4, 3, 5, 6), 0, GuessFolds.NONE);
    from(whoSaw("strip 9;", 3, 6), 40, 3);
  }
}
