/** Promises 14 to 23: what can be had, letters, what was seen. */
public final class HadTest {
  private static final int[] FAR = {-1, Integer.MIN_VALUE, Integer.MAX_VALUE};

  public static void main(String[] args) {
    fewest();
    all();
    starts();
    letterAndHush();
    meant();
    meantByNone();
    meantOfTheRule();
    wrong();
    got();
    sawAndForget();
    from();
    fromRings();
    fromBad();
    Due.end();
  }

  private static GuessFolds withLetters(String text, String letters) {
    GuessFolds x = Due.told(text);
    for (char its : letters.toCharArray()) {
      x.letter(its == 'R' ? 1 : 0);
    }
    return x;
  }

  private static void fewest() {
    GuessFolds x = new GuessFolds();
    int[] folds = {GuessFolds.BAD, 0, 3, 1, 2, GuessFolds.BAD};
    for (int j = 0; j < folds.length; j++) {
      Due.is("fewest(" + j + ")", x.fewest(j), folds[j]);
    }
    for (int j : FAR) {
      Due.is("fewest(" + j + ")", x.fewest(j), GuessFolds.BAD);
    }
    x.rule();
    Due.is("fewest(1) is from the guess", x.fewest(1), 0);
    Due.is("count(0): nothing is changed by it", x.count(0), 4);
    GuessFolds y = Due.told("strip 61;part 2;");
    Due.is("fewest(2)", y.fewest(2), 0);
    Due.is("fewest(1)", y.fewest(1), 1);
    Due.is("fewest(31)", y.fewest(31), 2);
    Due.is("fewest(4): the last that comes", y.fewest(4), 59);
    GuessFolds z = Due.told("strip 9;part 3;");
    Due.is("fewest(6)", z.fewest(6), 1);
    Due.is("fewest(1)", z.fewest(1), GuessFolds.NONE);
    Due.is("fewest(9)", z.fewest(9), GuessFolds.BAD);
  }

  private static void comes(int parts, int part, int all, int starts) {
    GuessFolds x = Due.told("strip " + parts + ";part " + part + ";");
    Due.is("comes(0) of " + part + " by " + parts, x.comes(0), all);
    Due.is("comes(1) of " + part + " by " + parts, x.comes(1), starts);
  }

  private static void all() {
    comes(9, 3, 2, 2);
    comes(9, 6, 2, 2);
    comes(9, 1, 6, 2);
    comes(63, 9, 3, 12);
    comes(63, 21, 2, 12);
    comes(63, 1, 6, 12);
    GuessFolds x = new GuessFolds();
    for (int what : FAR) {
      Due.is("comes(" + what + ")", x.comes(what), GuessFolds.BAD);
    }
    Due.is("comes(2)", x.comes(2), GuessFolds.BAD);
  }

  /** 63: of 1 (36 parts by sixes), 7 (6), 9 (6 by threes), 3 (12 by sixes), 21 (2): 6 + 1 + 2 + 2 + 1. */
  private static void starts() {
    comes(3, 1, 2, 1);
    comes(5, 1, 4, 1);
    comes(7, 1, 3, 2);
    comes(31, 1, 5, 6);
    comes(33, 1, 10, 4);
    comes(61, 1, 60, 1);
    comes(59, 2, 58, 1);
    comes(43, 1, 14, 3);
  }

  private static void letterAndHush() {
    GuessFolds x = new GuessFolds();
    Due.is("hush()", x.hush(), 0);
    for (int its : FAR) {
      Due.is("letter(" + its + ")", x.letter(its), GuessFolds.BAD);
    }
    Due.is("letter(2)", x.letter(2), GuessFolds.BAD);
    for (int i = 1; i <= 12; i++) {
      Due.is("letter", x.letter(i % 2), i);
    }
    String before = Due.all(x);
    Due.is("letter(0) of the 13th", x.letter(0), GuessFolds.FULL);
    Due.is("letter(1) of the 13th", x.letter(1), GuessFolds.FULL);
    Due.is("letter(2) of the 13th", x.letter(2), GuessFolds.BAD);
    Due.holds("a refused letter changes nothing", before.equals(Due.all(x)));
    Due.is("count(1)", x.count(1), 12);
    Due.is("hush()", x.hush(), 12);
    Due.is("count(1)", x.count(1), 0);
    Due.is("hush()", x.hush(), 0);
    Due.is("letter(1)", x.letter(1), 1);
    Due.is("wrong(): no old letter is left", x.wrong(), GuessFolds.NONE);
  }

  private static void meant(String letters, int pairs, int parts, int part) {
    GuessFolds x = withLetters("strip 7;part 3;", letters);
    Due.is("meant(0) of " + letters, x.meant(0), pairs);
    Due.is("meant(1) of " + letters, x.meant(1), parts);
    Due.is("meant(2) of " + letters, x.meant(2), part);
  }

  private static void meant() {
    meant("", 992, 3, 1);
    meant("R", 496, 3, 1);
    meant("L", 496, 3, 2);
    meant("RL", 256, 3, 1);
    meant("LL", 240, 5, 4);
    meant("RR", 240, 5, 1);
    meant("RRLL", 64, 5, 1);
    meant("RLRLRLRLRLRL", 11, 3, 1);
    meant("RRRRRRRRRRRR", 0, GuessFolds.NONE, GuessFolds.NONE);
    GuessFolds x = new GuessFolds();
    for (int what : FAR) {
      Due.is("meant(" + what + ")", x.meant(what), GuessFolds.BAD);
    }
    Due.is("meant(3)", x.meant(3), GuessFolds.BAD);
  }

  /** A part can be halved five times at most: 32 by 33 and beyond. */
  private static void meantByNone() {
    meant("LLLLL", 16, 33, 32);
    meant("LLLLLL", 0, GuessFolds.NONE, GuessFolds.NONE);
    meant("LLLLLR", 16, 33, 32);
  }

  /** What the rule says from a pair must be meant for it, and for none ahead of it that says otherwise. */
  private static void meantOfTheRule() {
    for (int parts = 3; parts <= 63; parts += 12) {
      for (int part = 1; part < parts; part += 5) {
        GuessFolds x = Due.told("strip " + parts + ";part " + part + ";");
        for (int i = 0; i < 12; i++) {
          x.letter(x.rule());
        }
        Due.is("wrong() of the rule's own letters", x.wrong(), GuessFolds.NONE);
        Due.holds("the pair is among those meant", x.meant(0) >= 1);
        Due.holds("the first is not behind the pair", x.meant(1) <= parts);
      }
    }
  }

  private static void wrong() {
    Due.is("wrong() of none", withLetters("", "").wrong(), GuessFolds.NONE);
    Due.is("wrong() of L", withLetters("", "L").wrong(), 0);
    Due.is("wrong() of RL", withLetters("", "RL").wrong(), 1);
    Due.is("wrong() of RRR", withLetters("", "RRR").wrong(), 2);
    Due.is("wrong() of RRLR", withLetters("", "RRLR").wrong(), 3);
    Due.is("wrong() of RRLLRRLLRRLL", withLetters("", "RRLLRRLLRRLL").wrong(), GuessFolds.NONE);
    Due.is("wrong() of RRLLRRLLRRLR", withLetters("", "RRLLRRLLRRLR").wrong(), 11);
    Due.is("wrong() of RLRL, only the first counts", withLetters("", "RLRL").wrong(), 1);
    Due.is("wrong() from 3 by 7", withLetters("strip 7;part 3;", "RRL").wrong(), GuessFolds.NONE);
    Due.is("wrong() from 4 by 7", withLetters("strip 7;part 4;", "LLR").wrong(), GuessFolds.NONE);
    GuessFolds x = withLetters("", "RR");
    x.rule();
    Due.is("wrong() is from the guess, not the latest", x.wrong(), GuessFolds.NONE);
  }

  private static void got(String text, String letters, long upper, long lower) {
    GuessFolds x = withLetters(text, letters);
    Due.fraction("got() of " + text + letters, x.got(0), x.got(1), upper, lower);
  }

  private static void got() {
    got("", "", 1, 5);
    got("", "L", 1, 10);
    got("", "R", 3, 5);
    got("", "LR", 11, 20);
    got("", "RL", 3, 10);
    got("", "RRLL", 1, 5);
    got("strip 63;part 9;", "", 1, 7);
    got("strip 63;part 21;", "R", 2, 3);
    got("strip 63;", "LLLLLLLLLLLL", 1, 63L << 12);
    got("strip 63;part 62;", "RRRRRRRRRRRR", (63L << 12) - 1, 63L << 12);
    GuessFolds x = withLetters("", "R");
    x.rule();
    x.rule();
    Due.fraction("got() is from the guess", x.got(0), x.got(1), 3, 5);
    for (int what : FAR) {
      Due.is("got(" + what + ")", x.got(what), GuessFolds.BAD);
    }
    Due.is("got(2)", x.got(2), GuessFolds.BAD);
  }

  private static void sawAndForget() {
    GuessFolds x = Due.told("strip 7;");
    Due.is("forget()", x.forget(), 0);
    for (int j : new int[] {0, 7, 8, -1, Integer.MIN_VALUE, Integer.MAX_VALUE}) {
      Due.is("saw(" + j + ")", x.saw(j), GuessFolds.BAD);
    }
    for (int i = 1; i <= 8; i++) {
      Due.is("saw", x.saw(i % 6 + 1), i);
    }
    Due.is("saw(1) of the ninth", x.saw(1), GuessFolds.FULL);
    Due.is("saw(6) of the ninth", x.saw(6), GuessFolds.FULL);
    Due.is("saw(0) of the ninth", x.saw(0), GuessFolds.BAD);
    Due.is("saw(7) of the ninth", x.saw(7), GuessFolds.BAD);
    Due.is("count(2)", x.count(2), 8);
    Due.is("forget()", x.forget(), 8);
    Due.is("count(2)", x.count(2), 0);
    Due.is("saw(2)", x.saw(2), 1);
    Due.is("from(0): nothing old is left", x.from(0), 1);
    Due.is("from(1)", x.from(1), 2);
  }

  private static void from(String text, int ways, int least, int... seen) {
    GuessFolds x = Due.told(text);
    for (int j : seen) {
      x.saw(j);
    }
    String which = " of " + text + java.util.Arrays.toString(seen);
    Due.is("from(0)" + which, x.from(0), ways);
    Due.is("from(1)" + which, x.from(1), least);
  }

  /** In fifths the ring is 1, 3, 4, 2. */
  private static void from() {
    from("", 0, GuessFolds.NONE);
    from("", 1, 1, 1);
    from("", 1, 4, 4);
    from("", 1, 4, 4, 4, 4);
    from("", 1, 1, 1, 3);
    from("", 1, 1, 3, 1, 3);
    from("", 1, 2, 1, 2);
    from("", 0, GuessFolds.NONE, 1, 4);
    from("", 1, 3, 2, 3, 4);
    from("", 72, 1, 1, 2, 3, 4);
    from("part 4;", 1, 1, 1, 3);
  }

  /** A ring of n that was seen whole comes in 21 - (n - 1) ways from each of its parts. */
  private static void fromRings() {
    from("strip 3;", 40, 1, 1, 2);
    from("strip 7;", 57, 1, 1, 2, 4);
    from("strip 7;", 57, 3, 3, 5, 6);
    from("strip 7;", 0, GuessFolds.NONE, 1, 2, 3);
    from("strip 63;", 40, 21, 42, 21);
    from("strip 63;", 96, 1, 1, 32, 16, 8, 4, 2);
    from("strip 17;", 112, 1, 1, 9, 13, 15, 16, 8, 4, 2);
    from("strip 17;", 1, 9, 9, 13, 15, 16, 8, 4, 2);
    from("strip 61;", 1, 4, 1, 2, 4);
    from("strip 61;", 1, 60, 60, 30, 15);
    from("strip 61;", 1, 4, 4, 2, 1, 31, 46, 23, 42, 21);
    from("strip 63;", 1, 62, 62);
  }

  private static void fromBad() {
    GuessFolds x = new GuessFolds();
    for (int what : FAR) {
      Due.is("from(" + what + ")", x.from(what), GuessFolds.BAD);
    }
    Due.is("from(2)", x.from(2), GuessFolds.BAD);
  }
}
