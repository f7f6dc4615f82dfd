/** Promises 7 to 13: folds, the rule, how near, creases that are not wanted. */
public final class FoldsTest {
  private static final int[] FAR = {-1, Integer.MIN_VALUE, Integer.MAX_VALUE};

  public static void main(String[] args) {
    fold();
    foldFull();
    rule();
    ruleState();
    ruleFull();
    undo();
    says();
    round();
    near();
    nearIsNotCut();
    wasted();
    missing();
    Due.end();
  }

  private static void fold() {
    GuessFolds x = Due.told("strip 9;part 4;off 9;hair 9;");
    Due.is("fold(0, 1)", x.fold(0, 1), 3);
    Due.crease(x, 3, 1, 2, 0, 1, 1, 1, GuessFolds.NONE);
    Due.is("fold(1, 0)", x.fold(1, 0), 4);
    Due.crease(x, 4, 1, 2, 0, 1, 1, 1, GuessFolds.NONE);
    Due.is("fold(4, 3)", x.fold(4, 3), 5);
    Due.crease(x, 5, 1, 2, 0, 1, 2, 1, GuessFolds.NONE);
    Due.is("fold(2, 5)", x.fold(2, 5), 6);
    Due.crease(x, 6, 17, 36, 1, 2, 2, 1, GuessFolds.NONE);
    Due.is("fold(0, 2)", x.fold(0, 2), 7);
    Due.crease(x, 7, 2, 9, 1, 2, 1, 1, 2);
    Due.is("fold(6, 7)", x.fold(6, 7), 8);
    Due.crease(x, 8, 25, 72, 1, 2, 5, 2, GuessFolds.NONE);
    String before = Due.all(x);
    for (int k : FAR) {
      Due.is("fold(" + k + ", 0)", x.fold(k, 0), GuessFolds.BAD);
      Due.is("fold(0, " + k + ")", x.fold(0, k), GuessFolds.BAD);
      Due.is("fold(" + k + ", " + k + ")", x.fold(k, k), GuessFolds.BAD);
    }
    Due.is("fold(9, 0)", x.fold(9, 0), GuessFolds.BAD);
    Due.is("fold(0, 9)", x.fold(0, 9), GuessFolds.BAD);
    Due.is("fold(0, 0)", x.fold(0, 0), GuessFolds.BAD);
    Due.is("fold(8, 8)", x.fold(8, 8), GuessFolds.BAD);
    Due.holds("a refused fold changes nothing", before.equals(Due.all(x)));
    Due.is("told(3)", x.told(3), 9);
  }

  private static void foldFull() {
    GuessFolds x = Due.told("fold 0 1;".repeat(19));
    Due.is("fold(21, 2)", x.fold(21, 2), 22);
    String before = Due.all(x);
    Due.is("fold(0, 1)", x.fold(0, 1), GuessFolds.FULL);
    Due.is("fold(22, 1)", x.fold(22, 1), GuessFolds.FULL);
    Due.is("fold(22, 22)", x.fold(22, 22), GuessFolds.BAD);
    Due.is("fold(23, 0)", x.fold(23, 0), GuessFolds.BAD);
    Due.is("fold(0, 23)", x.fold(0, 23), GuessFolds.BAD);
    Due.holds("a refused fold changes nothing", before.equals(Due.all(x)));
    Due.is("undo()", x.undo(), 22);
    Due.is("fold(0, 2)", x.fold(0, 2), 22);
  }

  /** In fifths from 1: right to 3, right to 4, left to 2, left to 1. */
  private static void rule() {
    GuessFolds x = new GuessFolds();
    int[] sides = {1, 1, 0, 0};
    int[] at = {3, 4, 2, 1};
    for (int i = 0; i < 20; i++) {
      Due.is("rule() " + i, x.rule(), sides[i % 4]);
      Due.is("crease(" + (i + 3) + ", 6)", x.crease(i + 3, 6), at[i % 4]);
      Due.is("offness, lower", x.crease(i + 3, 3), 2L << i);
    }
    GuessFolds y = Due.told("strip 7;part 6;");
    Due.is("rule()", y.rule(), 0);
    Due.crease(y, 3, 3, 7, 1, 2, 1, 1, 3);
    Due.is("rule()", y.rule(), 1);
    Due.crease(y, 4, 5, 7, 1, 4, 3, 2, 5);
    Due.is("rule()", y.rule(), 1);
    Due.crease(y, 5, 6, 7, 1, 8, 7, 4, 6);
  }

  private static void ruleState() {
    GuessFolds x = Due.told("strip 9;part 3;");
    Due.is("fold(1, 2)", x.fold(1, 2), 3);
    Due.is("rule() of a crease that was folded", x.rule(), 0);
    Due.is("crease(4, 6)", x.crease(4, 6), 3);
    Due.is("fold(0, 1)", x.fold(0, 1), 5);
    String before = Due.all(x);
    Due.is("rule() of a crease at no part", x.rule(), GuessFolds.STATE);
    Due.holds("a refused rule() changes nothing", before.equals(Due.all(x)));
    Due.is("undo()", x.undo(), 5);
    Due.is("rule()", x.rule(), 1);
    Due.is("crease(5, 6)", x.crease(5, 6), 6);
  }

  private static void ruleFull() {
    GuessFolds x = Due.told("strip 3;");
    for (int i = 0; i < 20; i++) {
      Due.is("rule()", x.rule(), i % 2 == 0 ? 1 : 0);
    }
    String before = Due.all(x);
    Due.is("rule() of the 21st", x.rule(), GuessFolds.FULL);
    Due.holds("a refused rule() changes nothing", before.equals(Due.all(x)));
    GuessFolds y = Due.told("fold 0 1;".repeat(20));
    Due.is("rule() of the 21st from no part", y.rule(), GuessFolds.STATE);
  }

  private static void undo() {
    GuessFolds x = Due.told("strip 7;fold 2 1;fold 3 0;");
    x.letter(1);
    x.saw(2);
    Due.is("undo()", x.undo(), 4);
    Due.is("crease(4, 0)", x.crease(4, 0), GuessFolds.BAD);
    Due.is("fold(0, 1)", x.fold(0, 1), 4);
    Due.crease(x, 4, 1, 2, 0, 1, 1, 1, GuessFolds.NONE);
    Due.is("undo()", x.undo(), 4);
    Due.is("undo()", x.undo(), 3);
    String before = Due.all(x);
    Due.is("undo() of three", x.undo(), GuessFolds.STATE);
    Due.is("undo() of three", x.undo(), GuessFolds.STATE);
    Due.holds("a refused undo() changes nothing", before.equals(Due.all(x)));
    Due.is("count(1)", x.count(1), 1);
    Due.is("count(2)", x.count(2), 1);
    Due.is("rule()", x.rule(), 1);
  }

  private static void says() {
    for (int parts = 3; parts <= 63; parts += 2) {
      GuessFolds x = Due.told("strip " + parts + ";");
      for (int j = 1; j < parts; j++) {
        Due.is("says(" + j + ")", x.says(j), j % 2);
      }
      Due.is("says(0)", x.says(0), GuessFolds.BAD);
      Due.is("says(" + parts + ")", x.says(parts), GuessFolds.BAD);
      Due.is("says(" + (parts + 1) + ")", x.says(parts + 1), GuessFolds.BAD);
    }
    GuessFolds x = new GuessFolds();
    for (int j : FAR) {
      Due.is("says(" + j + ")", x.says(j), GuessFolds.BAD);
    }
  }

  private static void rounds(int parts, int... partAndFolds) {
    GuessFolds x = Due.told("strip " + parts + ";");
    for (int i = 0; i + 1 < partAndFolds.length; i += 2) {
      Due.is("round(" + partAndFolds[i] + ") of " + parts, x.round(partAndFolds[i]), partAndFolds[i + 1]);
    }
    Due.is("round(0)", x.round(0), GuessFolds.BAD);
    Due.is("round(" + parts + ")", x.round(parts), GuessFolds.BAD);
    for (int j : FAR) {
      Due.is("round(" + j + ")", x.round(j), GuessFolds.BAD);
    }
  }

  /** As often as 2 must be taken times itself till it is 1 over PARTS by what they share with the PART. */
  private static void round() {
    rounds(3, 1, 2, 2, 2);
    rounds(5, 1, 4, 2, 4, 3, 4, 4, 4);
    rounds(7, 1, 3, 2, 3, 3, 3, 6, 3);
    rounds(9, 1, 6, 3, 2, 6, 2, 8, 6);
    rounds(15, 1, 4, 3, 4, 5, 2, 10, 2);
    rounds(31, 1, 5, 15, 5, 30, 5);
    rounds(33, 1, 10, 3, 10, 11, 2, 22, 2);
    rounds(43, 1, 14);
    rounds(59, 1, 58, 58, 58);
    rounds(61, 1, 60, 60, 60, 30, 60);
    rounds(63, 1, 6, 7, 6, 9, 3, 21, 2, 42, 2, 27, 3, 62, 6);
  }

  private static void nears(String text, int... tAndFolds) {
    GuessFolds x = Due.told(text);
    for (int i = 0; i + 1 < tAndFolds.length; i += 2) {
      Due.is("near(" + tAndFolds[i] + ") of " + text, x.near(tAndFolds[i]), tAndFolds[i + 1]);
    }
    for (int t : FAR) {
      Due.is("near(" + t + ")", x.near(t), GuessFolds.BAD);
    }
    Due.is("near(100000)", x.near(100000), GuessFolds.BAD);
  }

  private static void near() {
    nears("", 0, 0, 1, 0, 99999, 0);
    nears("off 1;", 99999, 0, 1000, 0, 999, 1, 500, 1, 499, 2, 250, 2, 249, 3, 2, 9, 1, 10, 0, GuessFolds.NONE);
    nears("off 99;", 99999, 0, 99000, 0, 98999, 1, 49500, 1, 49499, 2, 1, 17, 0, GuessFolds.NONE);
    nears("off 64;hair 9;", 64000, 0, 63999, 1, 32000, 1, 125, 9, 124, 10, 1, 16);
    nears("off 99;hair 9;strip 9;part 3;", 99000, 0, 1, 17);
  }

  /** 99000 by 16 is 6187 and one half, so that 6187 wants a fold more. */
  private static void nearIsNotCut() {
    nears("off 99;", 6188, 4, 6187, 5, 3094, 5, 3093, 6);
    nears("off 1;", 125, 3, 63, 4, 62, 5, 32, 5, 31, 6);
  }

  private static void wasted() {
    GuessFolds x = Due.told("strip 9;part 3;");
    Due.is("wasted(0)", x.wasted(0), 0);
    x.fold(0, 1);
    Due.is("wasted(0) with a half", x.wasted(0), 1);
    x.fold(1, 2);
    Due.is("wasted(0) with a crease at 6", x.wasted(0), 1);
    x.fold(0, 2);
    x.fold(0, 5);
    Due.is("wasted(0) with two sixths' halves", x.wasted(0), 3);
    x.fold(2, 4);
    Due.is("wasted(0) with a half again", x.wasted(0), 4);
    x.undo();
    Due.is("wasted(0) behind undo()", x.wasted(0), 3);
    for (int what : FAR) {
      Due.is("wasted(" + what + ")", x.wasted(what), GuessFolds.BAD);
    }
    Due.is("wasted(2)", x.wasted(2), GuessFolds.BAD);
  }

  private static void missing() {
    GuessFolds x = Due.told("strip 9;part 3;");
    Due.is("wasted(1)", x.wasted(1), 7);
    x.fold(1, 2);
    Due.is("wasted(1)", x.wasted(1), 6);
    x.fold(1, 2);
    Due.is("wasted(1) with 6 twice", x.wasted(1), 6);
    x.fold(0, 2);
    Due.is("wasted(1) with one at no part", x.wasted(1), 6);
    GuessFolds y = Due.told("strip 3;part 2;");
    Due.is("wasted(1)", y.wasted(1), 1);
    y.rule();
    Due.is("wasted(1)", y.wasted(1), 0);
    GuessFolds z = Due.told("strip 63;");
    Due.is("wasted(1)", z.wasted(1), 61);
    z.fold(2, 1);
    z.fold(3, 2);
    Due.is("wasted(1)", z.wasted(1), 60);
  }
}
