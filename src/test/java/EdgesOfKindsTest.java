/** Promises 24 to 28 at their edges: a test for each sentence of the document that names one. */
public final class EdgesOfKindsTest {
  private static final int[] FAR = {-1, -2, -9, Integer.MIN_VALUE, Integer.MAX_VALUE};

  public static void main(String[] args) {
    p24Kinds();
    p24CreasesThatThereAre();
    p24RefusedIsNoMinusOne();
    p24NoPartIsNought();
    p24TheEnds();
    p24NothingAndTheMostOfAll();
    p24UpIsAskedOnce();
    p25Images();
    p25KeptAgain();
    p25TheLeastAndTheMost();
    p26NoneWasKept();
    p26BadComesAheadOfState();
    p26BackAgain();
    p26WhatAnImageKeeps();
    p26NothingElse();
    p26GoneWhenReadAnew();
    p27Whats();
    p27EmptyAndFull();
    p28NoughtAtFirst();
    p28OfAllCallsEver();
    p28ARefusedMarkAsksNoBody();
    Due.end();
  }

  /** All that there can be: 63 parts, 23 creases, 12 letters, 8 seen. */
  private static GuessFolds full() {
    GuessFolds x = Due.told("strip 63;part 62;" + "fold0 2;".repeat(20));
    for (int i = 0; i < 12; i++) {
      x.letter(i % 2);
    }
    for (int j = 1; j <= 8; j++) {
      x.saw(j);
    }
    return x;
  }

  // ---- mark

  private static void p24Kinds() {
    GuessFolds x = new GuessFolds();
    for (int far : FAR) {
      Due.is("mark(" + far + ", 0)", x.mark(far, 0), GuessFolds.NO);
    }
    Due.is("mark(6, 0)", x.mark(6, 0), GuessFolds.NO);
    for (int kind = 0; kind <= 5; kind++) {
      Due.holds("mark(" + kind + ", 0) is not refused", x.mark(kind, 0) != GuessFolds.NO);
    }
  }

  private static void p24CreasesThatThereAre() {
    GuessFolds x = new GuessFolds();
    for (int creases = 3; creases <= 23; creases++) {
      for (int kind = 0; kind <= 5; kind++) {
        Due.is("mark(" + kind + ", -1)", x.mark(kind, -1), GuessFolds.NO);
        Due.is("mark(" + kind + ", " + creases + ")", x.mark(kind, creases), GuessFolds.NO);
      }
      Due.is("mark(0, last)", x.mark(0, creases - 1), creases - 1);
      x.fold(0, 1);
    }
    for (int far : FAR) {
      Due.is("mark(0, " + far + ")", x.mark(0, far), GuessFolds.NO);
      Due.is("mark(6, " + far + ")", x.mark(6, far), GuessFolds.NO);
    }
    x.undo();
    Due.is("mark(0, 22) behind undo()", x.mark(0, 22), GuessFolds.NO);
  }

  /** An END may be -1, -2 or -3 (and a CORNER, too), which is no refusal then. */
  private static void p24RefusedIsNoMinusOne() {
    GuessFolds x = new GuessFolds();
    for (int k = 0; k < 3; k++) {
      Due.is("mark(2, " + k + ")", x.mark(2, k), k - 3);
      Due.is("mark(4, " + k + ")", x.mark(4, k), k - 3);
    }
    Due.is("trace()", x.trace(), 3 * 101 + 3 * 10101);
  }

  private static void p24NoPartIsNought() {
    GuessFolds x = Due.told("fold 0 1;");
    Due.is("part of the crease", x.crease(3, 6), GuessFolds.NONE);
    Due.is("mark(1, 3)", x.mark(1, 3), 3);
    Due.is("mark(3, 3)", x.mark(3, 3), 6);
  }

  private static void p24TheEnds() {
    GuessFolds x = Due.told("strip 63;");
    int[] left = {0, 0, -3, 0, -3, 63};
    int[] right = {1, 64, -2, 128, -2, 64};
    for (int kind = 0; kind <= 5; kind++) {
      Due.is("mark(" + kind + ", 0)", x.mark(kind, 0), left[kind]);
      Due.is("mark(" + kind + ", 1)", x.mark(kind, 1), right[kind]);
    }
  }

  private static void p24NothingAndTheMostOfAll() {
    GuessFolds x = full();
    // The last crease is at 31 by 63.
    int[] last = {22, 53, -1, 106, 11, 85};
    int[] first = {0, 0, -23, 0, -11, 63};
    for (int kind = 0; kind <= 5; kind++) {
      Due.is("mark(" + kind + ", 22)", x.mark(kind, 22), last[kind]);
      Due.is("mark(" + kind + ", 0)", x.mark(kind, 0), first[kind]);
    }
    x.hush();
    Due.is("mark(4, 22) without letters", x.mark(4, 22), -1);
  }

  private static void p24UpIsAskedOnce() {
    long[] bodies = {1, 11, 101, 1011, 10101, 100001};
    for (int kind = 0; kind <= 5; kind++) {
      GuessFolds x = new GuessFolds();
      x.mark(kind, 2);
      Due.is("trace() of " + kind, x.trace(), bodies[kind]);
      x.mark(kind, 1);
      Due.is("trace() of " + kind + " twice", x.trace(), 2 * bodies[kind]);
    }
  }

  // ---- images

  private static void p25Images() {
    GuessFolds x = new GuessFolds();
    for (int far : FAR) {
      Due.is("keep(" + far + ")", x.keep(far), GuessFolds.BAD);
    }
    Due.is("keep(2)", x.keep(2), GuessFolds.BAD);
    Due.is("back(0): none was kept", x.back(0), GuessFolds.STATE);
    Due.is("back(1): none was kept", x.back(1), GuessFolds.STATE);
  }

  private static void p25KeptAgain() {
    GuessFolds x = full();
    Due.is("keep(0)", x.keep(0), 23);
    x.undo();
    x.hush();
    x.forget();
    Due.is("keep(0) again", x.keep(0), 22);
    x.letter(1);
    x.saw(1);
    Due.is("back(0)", x.back(0), 22);
    Due.is("count(1)", x.count(1), 0);
    Due.is("count(2)", x.count(2), 0);
  }

  private static void p25TheLeastAndTheMost() {
    GuessFolds x = new GuessFolds();
    Due.is("keep(0)", x.keep(0), 3);
    for (int i = 0; i < 20; i++) {
      x.fold(1, 2);
    }
    Due.is("keep(1)", x.keep(1), 23);
    Due.is("back(0)", x.back(0), 3);
    Due.is("crease(3, 0)", x.crease(3, 0), GuessFolds.BAD);
    Due.is("undo()", x.undo(), GuessFolds.STATE);
    Due.is("back(1)", x.back(1), 23);
    Due.is("fold(0, 1)", x.fold(0, 1), GuessFolds.FULL);
    Due.is("crease(22, 6)", x.crease(22, 6), 3);
  }

  private static void p26NoneWasKept() {
    GuessFolds x = new GuessFolds();
    Due.is("back(0)", x.back(0), GuessFolds.STATE);
    Due.is("back(1)", x.back(1), GuessFolds.STATE);
    x.keep(0);
    Due.is("back(1): it was the other", x.back(1), GuessFolds.STATE);
    Due.is("back(0)", x.back(0), 3);
    GuessFolds y = new GuessFolds();
    y.keep(1);
    Due.is("back(0): it was the other", y.back(0), GuessFolds.STATE);
    Due.is("back(1)", y.back(1), 3);
  }

  private static void p26BadComesAheadOfState() {
    GuessFolds x = new GuessFolds();
    for (int far : FAR) {
      Due.is("back(" + far + ")", x.back(far), GuessFolds.BAD);
    }
    Due.is("back(2)", x.back(2), GuessFolds.BAD);
  }

  private static void p26BackAgain() {
    GuessFolds x = full();
    x.keep(1);
    String kept = Due.all(x);
    for (int i = 0; i < 3; i++) {
      x.undo();
      x.hush();
      x.forget();
      Due.is("back(1)", x.back(1), 23);
      Due.holds("all is as it was kept", kept.equals(Due.all(x)));
    }
  }

  /** Creases, letters and what was seen, each by itself, from nothing and to nothing. */
  private static void p26WhatAnImageKeeps() {
    GuessFolds x = new GuessFolds();
    x.keep(0);
    x.rule();
    x.letter(0);
    x.saw(4);
    x.keep(1);
    Due.is("back(0)", x.back(0), 3);
    Due.is("count(1)", x.count(1), 0);
    Due.is("count(2)", x.count(2), 0);
    Due.is("back(1)", x.back(1), 4);
    Due.is("crease(3, 6)", x.crease(3, 6), 3);
    Due.is("count(1)", x.count(1), 1);
    Due.is("wrong()", x.wrong(), 0);
    Due.is("count(2)", x.count(2), 1);
    Due.is("from(1)", x.from(1), 4);
  }

  private static void p26NothingElse() {
    GuessFolds x = Due.told("strip 7;part 3;off 8;hair 2;");
    x.keep(0);
    Due.type(x, "off 1;");
    x.mark(5, 0);
    Due.is("back(0)", x.back(0), 3);
    Due.is("count(3): the text stays", x.count(3), 6);
    Due.is("trace() stays", x.trace(), 100001);
    int[] told = {7, 3, 8, 2};
    for (int what = 0; what < 4; what++) {
      Due.is("told(" + what + ") stays", x.told(what), told[what]);
    }
    x.clear();
    Due.is("back(0)", x.back(0), 3);
    Due.is("count(3): the text stays empty", x.count(3), 0);
  }

  private static void p26GoneWhenReadAnew() {
    GuessFolds x = full();
    x.keep(0);
    x.keep(1);
    Due.type(x, "strip 4;");
    Due.is("strip() of a fault", x.strip(), -16);
    Due.is("back(0)", x.back(0), 23);
    Due.is("back(1)", x.back(1), 23);
    x.clear();
    Due.is("strip() of nothing", x.strip(), 0);
    Due.is("back(0)", x.back(0), GuessFolds.STATE);
    Due.is("back(1)", x.back(1), GuessFolds.STATE);
    Due.is("count(0)", x.count(0), 3);
  }

  // ---- count, trace

  private static void p27Whats() {
    GuessFolds x = new GuessFolds();
    for (int far : FAR) {
      Due.is("count(" + far + ")", x.count(far), GuessFolds.BAD);
    }
    Due.is("count(4)", x.count(4), GuessFolds.BAD);
  }

  private static void p27EmptyAndFull() {
    int[] empty = {3, 0, 0, 0};
    int[] most = {23, 12, 8, 200};
    GuessFolds x = new GuessFolds();
    GuessFolds y = full();
    Due.type(y, " ".repeat(200));
    for (int what = 0; what < 4; what++) {
      Due.is("count(" + what + ") of nothing", x.count(what), empty[what]);
      Due.is("count(" + what + ") of all", y.count(what), most[what]);
    }
    y.fold(0, 1);
    y.letter(0);
    y.saw(1);
    y.type(0, 1);
    for (int what = 0; what < 4; what++) {
      Due.is("count(" + what + ") of no more", y.count(what), most[what]);
    }
  }

  private static void p28NoughtAtFirst() {
    Due.is("trace()", new GuessFolds().trace(), 0);
  }

  private static void p28OfAllCallsEver() {
    GuessFolds x = new GuessFolds();
    for (int i = 1; i <= 500; i++) {
      x.mark(5, 2);
    }
    Due.is("trace() of 500", x.trace(), 50000500);
    x.keep(0);
    x.undo();
    x.back(0);
    x.clear();
    x.strip();
    x.hush();
    x.forget();
    Due.is("trace() stays", x.trace(), 50000500);
    Due.is("trace() asks no body itself", x.trace(), 50000500);
  }

  private static void p28ARefusedMarkAsksNoBody() {
    GuessFolds x = new GuessFolds();
    for (int kind = -1; kind <= 6; kind++) {
      x.mark(kind, -1);
      x.mark(kind, 3);
    }
    x.mark(-1, 0);
    x.mark(6, 2);
    Due.is("trace()", x.trace(), 0);
  }
}
