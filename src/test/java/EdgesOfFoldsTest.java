/** Promises 7 to 13 at their edges: a test for each sentence of the document that names one. */
public final class EdgesOfFoldsTest {
  private static final int[] FAR = {-1, -2, -9, Integer.MIN_VALUE, Integer.MAX_VALUE};

  public static void main(String[] args) {
    p7CreasesThatThereAre();
    p7OneAndTheSame();
    p7TwoAtOnePlace();
    p7TwentyFolds();
    p7BadComesAheadOfFull();
    p8TheFirstAndTheLastPart();
    p8AtNoPart();
    p8TheLatestAlone();
    p8StateComesAheadOfFull();
    p8Full();
    p9Three();
    p9AllTwenty();
    p9FoldsOfTheText();
    p9RoomAgain();
    p10PartsOneToLast();
    p11PartsOneToLast();
    p11TheShortestAndTheLongest();
    p12TBounds();
    p12NothingIsOff();
    p12NotByForty();
    p12EachFoldAtItsEdge();
    p12NoHairs();
    p13Whats();
    p13NoneAndAllWasted();
    p13NoneAndMostMissing();
    p13TheEndsAreNoneOfThem();
    Due.end();
  }

  private static GuessFolds foldedTwenty() {
    return Due.told("fold0 1;".repeat(20));
  }

  // ---- fold

  private static void p7CreasesThatThereAre() {
    GuessFolds x = new GuessFolds();
    for (int creases = 3; creases < 23; creases++) {
      for (int far : FAR) {
        Due.is("fold(" + far + ", 0)", x.fold(far, 0), GuessFolds.BAD);
        Due.is("fold(0, " + far + ")", x.fold(0, far), GuessFolds.BAD);
      }
      Due.is("fold(" + creases + ", 0)", x.fold(creases, 0), GuessFolds.BAD);
      Due.is("fold(0, " + creases + ")", x.fold(0, creases), GuessFolds.BAD);
      Due.is("count(0)", x.count(0), creases);
      Due.is("fold of the last and the first", x.fold(creases - 1, 0), creases);
    }
    Due.is("fold(3, 0) without a 3", new GuessFolds().fold(3, 0), GuessFolds.BAD);
  }

  private static void p7OneAndTheSame() {
    GuessFolds x = new GuessFolds();
    for (int k = -1; k < 24; k++) {
      Due.is("fold(" + k + ", " + k + ")", x.fold(k, k), GuessFolds.BAD);
      x.fold(0, 1);
    }
    Due.is("count(0)", x.count(0), 23);
  }

  /** Not one and the same, though they lie over one another. */
  private static void p7TwoAtOnePlace() {
    GuessFolds x = Due.told("fold 0 1;fold 1 0;");
    Due.is("fold(3, 4)", x.fold(3, 4), 5);
    Due.crease(x, 5, 1, 2, 0, 1, 2, 1, GuessFolds.NONE);
  }

  private static void p7TwentyFolds() {
    for (int ofTheText = 0; ofTheText <= 20; ofTheText++) {
      GuessFolds x = Due.told("fold0 1;".repeat(ofTheText));
      for (int k = 3 + ofTheText; k < 23; k++) {
        Due.is("fold(2, 1) with " + ofTheText + " of the text", x.fold(2, 1), k);
      }
      Due.is("the 21st fold", x.fold(2, 1), GuessFolds.FULL);
      Due.is("count(0)", x.count(0), 23);
    }
  }

  private static void p7BadComesAheadOfFull() {
    GuessFolds x = foldedTwenty();
    Due.is("fold(22, 21)", x.fold(22, 21), GuessFolds.FULL);
    Due.is("fold(22, 22)", x.fold(22, 22), GuessFolds.BAD);
    Due.is("fold(23, 22)", x.fold(23, 22), GuessFolds.BAD);
    Due.is("fold(22, 23)", x.fold(22, 23), GuessFolds.BAD);
    Due.is("fold(-1, 22)", x.fold(-1, 22), GuessFolds.BAD);
    Due.is("fold(22, -1)", x.fold(22, -1), GuessFolds.BAD);
  }

  // ---- rule

  private static void p8TheFirstAndTheLastPart() {
    for (int parts = 3; parts <= 63; parts += 2) {
      GuessFolds first = Due.told("strip " + parts + ";part 1;");
      Due.is("rule() at 1", first.rule(), 1);
      Due.is("its part", first.crease(3, 6), (1 + parts) / 2);
      GuessFolds last = Due.told("strip " + parts + ";part " + (parts - 1) + ";");
      Due.is("rule() at the last", last.rule(), 0);
      Due.is("its part", last.crease(3, 6), (parts - 1) / 2);
    }
  }

  private static void p8AtNoPart() {
    GuessFolds x = Due.told("fold 0 1;");
    Due.is("rule()", x.rule(), GuessFolds.STATE);
    Due.is("count(0)", x.count(0), 4);
    Due.is("undo()", x.undo(), 3);
    Due.is("rule() of the guess", x.rule(), 1);
  }

  /** Neither the guess nor the crease that the rule made last, if another came behind it. */
  private static void p8TheLatestAlone() {
    GuessFolds x = Due.told("strip 9;part 2;");
    Due.is("rule()", x.rule(), 0);
    x.fold(1, 3);
    Due.is("the part of the latest", x.crease(4, 6), 5);
    Due.is("rule() from 5 by 9", x.rule(), 1);
    Due.is("the part of the latest", x.crease(5, 6), 7);
    x.fold(0, 5);
    Due.is("rule() from 7 by 18", x.rule(), GuessFolds.STATE);
  }

  private static void p8StateComesAheadOfFull() {
    GuessFolds x = foldedTwenty();
    Due.is("rule() at no part behind 20 folds", x.rule(), GuessFolds.STATE);
    x.undo();
    Due.is("rule() at no part behind 19 folds", x.rule(), GuessFolds.STATE);
    x.fold(2, 1);
    Due.is("rule() at a part behind 20 folds", x.rule(), GuessFolds.FULL);
  }

  private static void p8Full() {
    GuessFolds x = Due.told("fold0 1;".repeat(18) + "fold2 1;");
    Due.is("rule() behind 19 folds", x.rule(), 1);
    Due.is("rule() behind 20 folds", x.rule(), GuessFolds.FULL);
    Due.is("count(0)", x.count(0), 23);
    Due.is("undo()", x.undo(), 22);
    Due.is("rule() behind 19 folds again", x.rule(), 1);
  }

  // ---- undo

  private static void p9Three() {
    GuessFolds x = new GuessFolds();
    Due.is("undo()", x.undo(), GuessFolds.STATE);
    Due.is("count(0)", x.count(0), 3);
    x.rule();
    Due.is("undo() of the only fold", x.undo(), 3);
    Due.is("undo()", x.undo(), GuessFolds.STATE);
    Due.crease(x, 2, 1, 5, 1, 1, 0, 1, 1);
  }

  private static void p9AllTwenty() {
    GuessFolds x = new GuessFolds();
    for (int i = 0; i < 20; i++) {
      x.fold(i, i + 1);
    }
    for (int creases = 22; creases >= 3; creases--) {
      long upper = x.crease(creases - 1, 0);
      Due.is("undo()", x.undo(), creases);
      Due.is("crease(" + creases + ", 0)", x.crease(creases, 0), GuessFolds.BAD);
      Due.is("the latest stays as it is", x.crease(creases - 1, 0), upper);
    }
    Due.is("undo()", x.undo(), GuessFolds.STATE);
  }

  private static void p9FoldsOfTheText() {
    GuessFolds x = foldedTwenty();
    for (int creases = 22; creases >= 3; creases--) {
      Due.is("undo()", x.undo(), creases);
    }
    Due.is("undo()", x.undo(), GuessFolds.STATE);
  }

  private static void p9RoomAgain() {
    GuessFolds x = foldedTwenty();
    x.undo();
    Due.is("fold(2, 1) behind undo()", x.fold(2, 1), 22);
    Due.crease(x, 22, 3, 5, 1, 2, 1, 1, 3);
    Due.is("fold(2, 1)", x.fold(2, 1), GuessFolds.FULL);
  }

  // ---- says, round

  private static void p10PartsOneToLast() {
    for (int parts = 3; parts <= 63; parts += 2) {
      GuessFolds x = Due.told("strip " + parts + ";");
      Due.is("says(0)", x.says(0), GuessFolds.BAD);
      Due.is("says(1)", x.says(1), 1);
      Due.is("says(2)", x.says(2), 0);
      Due.is("says(" + (parts - 1) + ")", x.says(parts - 1), 0);
      Due.is("says(" + parts + ")", x.says(parts), GuessFolds.BAD);
      for (int far : FAR) {
        Due.is("says(" + far + ")", x.says(far), GuessFolds.BAD);
      }
    }
    Due.is("says(5) at first", new GuessFolds().says(5), GuessFolds.BAD);
  }

  private static void p11PartsOneToLast() {
    for (int parts = 3; parts <= 63; parts += 2) {
      GuessFolds x = Due.told("strip " + parts + ";");
      Due.is("round(0)", x.round(0), GuessFolds.BAD);
      Due.is("round(" + parts + ")", x.round(parts), GuessFolds.BAD);
      Due.is("round(1) and of the last", x.round(1), x.round(parts - 1));
      for (int far : FAR) {
        Due.is("round(" + far + ")", x.round(far), GuessFolds.BAD);
      }
      for (int j = 1; j < parts; j++) {
        Due.is("round(" + j + ") of " + parts, x.round(j), foldsTillRound(parts, j));
      }
    }
  }

  /** As often as j must be doubled till j is left over from PARTS: the rule, walked backwards. */
  private static int foldsTillRound(int parts, int j) {
    int times = 1;
    for (int at = 2 * j % parts; at != j; at = 2 * at % parts) {
      times++;
    }
    return times;
  }

  private static void p11TheShortestAndTheLongest() {
    Due.is("round(1) of 3", Due.told("strip 3;").round(1), 2);
    Due.is("round(21) of 63", Due.told("strip 63;").round(21), 2);
    Due.is("round(60) of 61", Due.told("strip 61;").round(60), 60);
    Due.is("round(1) of 59", Due.told("strip 59;").round(1), 58);
  }

  // ---- near

  private static void p12TBounds() {
    for (String text : new String[] {"", "off 1;", "off 99;"}) {
      GuessFolds x = Due.told(text);
      for (int far : FAR) {
        Due.is("near(" + far + ")", x.near(far), GuessFolds.BAD);
      }
      Due.is("near(100000)", x.near(100000), GuessFolds.BAD);
      Due.is("near(99999)", x.near(99999), 0);
    }
  }

  private static void p12NothingIsOff() {
    GuessFolds x = Due.told("strip 63;part 62;hair 9;");
    Due.is("near(0)", x.near(0), 0);
    Due.is("near(1)", x.near(1), 0);
  }

  private static void p12NotByForty() {
    for (int off = 1; off <= 99; off++) {
      Due.is("near(0)", Due.told("off " + off + ";").near(0), GuessFolds.NONE);
    }
    Due.is("near(1) of the most", Due.told("off 99;").near(1), 17);
  }

  /** OFF 64 is halved without a rest down to 125; t just there, and one less. */
  private static void p12EachFoldAtItsEdge() {
    GuessFolds x = Due.told("off 64;");
    for (int folds = 0; folds <= 9; folds++) {
      Due.is("near at its edge", x.near(64000 >> folds), folds);
      Due.is("near below it", x.near((64000 >> folds) - 1), folds + 1);
    }
    // 125 by 2 is 62 and one half: 62 is not enough for it.
    Due.is("near(63)", x.near(63), 10);
    Due.is("near(62)", x.near(62), 11);
  }

  private static void p12NoHairs() {
    Due.is("near(500)", Due.told("off 1;hair 9;").near(500), 1);
    Due.is("near(500)", Due.told("off 1;hair 0;").near(500), 1);
    GuessFolds x = Due.told("off 1;");
    x.rule();
    Due.is("near(500) is from the guess, not the latest", x.near(500), 1);
  }

  // ---- wasted

  private static void p13Whats() {
    GuessFolds x = new GuessFolds();
    for (int far : FAR) {
      Due.is("wasted(" + far + ")", x.wasted(far), GuessFolds.BAD);
    }
    Due.is("wasted(2)", x.wasted(2), GuessFolds.BAD);
  }

  private static void p13NoneAndAllWasted() {
    Due.is("wasted(0)", new GuessFolds().wasted(0), 0);
    Due.is("wasted(0)", foldedTwenty().wasted(0), 20);
    Due.is("wasted(0)", Due.told("fold2 1;".repeat(20)).wasted(0), 0);
  }

  private static void p13NoneAndMostMissing() {
    for (int parts = 3; parts <= 63; parts += 2) {
      GuessFolds x = Due.told("strip " + parts + ";");
      Due.is("wasted(1) of " + parts, x.wasted(1), parts - 2);
    }
    GuessFolds x = new GuessFolds();
    for (int missing = 2; missing >= 0; missing--) {
      x.rule();
      Due.is("wasted(1)", x.wasted(1), missing);
    }
    x.rule();
    Due.is("wasted(1) once round", x.wasted(1), 0);
    for (int missing = 1; missing <= 3; missing++) {
      x.undo();
      Due.is("wasted(1) behind undo()", x.wasted(1), missing - 1);
    }
  }

  /** The ends are meant at 0 and PARTS, which are not among 1 .. PARTS less 1; and they are never wasted. */
  private static void p13TheEndsAreNoneOfThem() {
    GuessFolds x = Due.told("strip 3;");
    Due.is("wasted(0)", x.wasted(0), 0);
    Due.is("wasted(1)", x.wasted(1), 1);
    x.rule();
    Due.is("wasted(0)", x.wasted(0), 0);
    Due.is("wasted(1)", x.wasted(1), 0);
  }
}
