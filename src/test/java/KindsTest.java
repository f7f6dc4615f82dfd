/** Promises 24 to 28: kinds, images, counts, the trace. */
public final class KindsTest {
  private static final int[] FAR = {-1, Integer.MIN_VALUE, Integer.MAX_VALUE};

  public static void main(String[] args) {
    mark();
    markAtNoPart();
    markRefused();
    keepAndBack();
    imagesAreCopies();
    imagesKeepNothingElse();
    imagesRefused();
    count();
    trace();
    Due.end();
  }

  private static void mark() {
    GuessFolds x = Due.told("strip 7;part 3;fold 2 1;fold 0 1;");
    x.letter(1);
    x.letter(0);
    x.letter(1);
    // Crease 3 is at part 5, there are five creases, three letters, seven parts.
    int[] marks = {3, 3 + 5, 3 - 5, 2 * (3 + 5), 3 - 5 + 3, 3 + 7};
    long[] traces = {1, 11, 101, 1011, 10101, 100001};
    long traced = 0;
    for (int kind = 0; kind < 6; kind++) {
      Due.is("mark(" + kind + ", 3)", x.mark(kind, 3), marks[kind]);
      traced += traces[kind];
      Due.is("trace()", x.trace(), traced);
    }
    int[] ofTheRightEnd = {1, 8, -4, 16, -1, 8};
    int[] ofTheLeftEnd = {0, 0, -5, 0, -2, 7};
    for (int kind = 0; kind < 6; kind++) {
      Due.is("mark(" + kind + ", 1)", x.mark(kind, 1), ofTheRightEnd[kind]);
      Due.is("mark(" + kind + ", 0)", x.mark(kind, 0), ofTheLeftEnd[kind]);
    }
    Due.is("trace()", x.trace(), 3 * 111226);
  }

  private static void markAtNoPart() {
    GuessFolds x = Due.told("fold 0 1;");
    Due.is("mark(1, 3)", x.mark(1, 3), 3);
    Due.is("mark(3, 3)", x.mark(3, 3), 6);
    Due.is("trace()", x.trace(), 1022);
  }

  private static void markRefused() {
    GuessFolds x = new GuessFolds();
    for (int far : FAR) {
      Due.is("mark(" + far + ", 0)", x.mark(far, 0), GuessFolds.NO);
      Due.is("mark(0, " + far + ")", x.mark(0, far), GuessFolds.NO);
    }
    for (int kind = 0; kind < 6; kind++) {
      Due.is("mark(" + kind + ", 3)", x.mark(kind, 3), GuessFolds.NO);
    }
    Due.is("mark(6, 0)", x.mark(6, 0), GuessFolds.NO);
    Due.is("trace()", x.trace(), 0);
    Due.is("mark(2, 2) is -1 and not refused", x.mark(2, 2), -1);
    Due.is("trace()", x.trace(), 101);
  }

  private static void keepAndBack() {
    GuessFolds x = Due.told("strip 7;");
    x.rule();
    x.letter(1);
    x.letter(1);
    x.saw(3);
    Due.is("keep(0)", x.keep(0), 4);
    String kept = Due.all(x);
    x.rule();
    x.rule();
    x.hush();
    x.saw(4);
    Due.is("keep(1)", x.keep(1), 6);
    String keptToo = Due.all(x);
    Due.is("back(0)", x.back(0), 4);
    Due.holds("back(0) is as it was", kept.equals(Due.all(x)));
    Due.is("back(1)", x.back(1), 6);
    Due.holds("back(1) is as it was", keptToo.equals(Due.all(x)));
    Due.is("back(1)", x.back(1), 6);
    Due.is("back(0)", x.back(0), 4);
    Due.holds("back(0) is as it was, again", kept.equals(Due.all(x)));
    Due.is("keep(1) anew", x.keep(1), 4);
    x.undo();
    Due.is("back(1)", x.back(1), 4);
    Due.holds("back(1) is as it is now", kept.equals(Due.all(x)));
  }

  /** What comes behind keep() does not reach into the image, and back() does not tie both together. */
  private static void imagesAreCopies() {
    GuessFolds x = new GuessFolds();
    x.fold(0, 1);
    x.fold(3, 2);
    x.letter(1);
    x.saw(2);
    x.keep(0);
    String kept = Due.all(x);
    x.undo();
    x.fold(0, 1);
    x.hush();
    x.letter(0);
    x.forget();
    x.saw(4);
    x.back(0);
    Due.holds("the image is as it was kept", kept.equals(Due.all(x)));
    x.undo();
    x.fold(1, 2);
    x.hush();
    x.forget();
    x.back(0);
    Due.holds("the image is still as it was kept", kept.equals(Due.all(x)));
  }

  private static void imagesKeepNothingElse() {
    GuessFolds x = new GuessFolds();
    x.keep(0);
    Due.type(x, "off 3;");
    x.mark(0, 0);
    x.keep(1);
    Due.is("back(0)", x.back(0), 3);
    Due.is("trace()", x.trace(), 1);
    Due.is("count(3)", x.count(3), 6);
    Due.is("back(1): another image stays", x.back(1), 3);
    Due.is("strip()", x.strip(), 1);
    Due.is("back(0)", x.back(0), GuessFolds.STATE);
    Due.is("keep(0)", x.keep(0), 3);
    Due.is("back(1)", x.back(1), GuessFolds.STATE);
    Due.type(x, "off");
    Due.is("strip() of a fault", x.strip(), -13);
    Due.is("back(0): a fault leaves images", x.back(0), 3);
  }

  private static void imagesRefused() {
    GuessFolds x = new GuessFolds();
    for (int image : FAR) {
      Due.is("keep(" + image + ")", x.keep(image), GuessFolds.BAD);
      Due.is("back(" + image + ")", x.back(image), GuessFolds.BAD);
    }
    Due.is("keep(2)", x.keep(2), GuessFolds.BAD);
    Due.is("back(2)", x.back(2), GuessFolds.BAD);
    x.keep(1);
    Due.is("back(0)", x.back(0), GuessFolds.STATE);
    Due.is("back(1)", x.back(1), 3);
  }

  private static void count() {
    GuessFolds x = new GuessFolds();
    x.rule();
    x.letter(0);
    x.letter(0);
    x.saw(1);
    x.saw(1);
    x.saw(1);
    Due.type(x, "strip");
    Due.is("count(0)", x.count(0), 4);
    Due.is("count(1)", x.count(1), 2);
    Due.is("count(2)", x.count(2), 3);
    Due.is("count(3)", x.count(3), 5);
    for (int what : FAR) {
      Due.is("count(" + what + ")", x.count(what), GuessFolds.BAD);
    }
    Due.is("count(4)", x.count(4), GuessFolds.BAD);
  }

  /** Of all calls ever, together: neither strip() nor back() takes any of it. */
  private static void trace() {
    GuessFolds x = new GuessFolds();
    x.keep(0);
    for (int i = 0; i < 100; i++) {
      x.mark(5, 0);
    }
    Due.is("trace()", x.trace(), 10000100);
    x.back(0);
    Due.is("trace()", x.trace(), 10000100);
    x.strip();
    Due.is("trace()", x.trace(), 10000100);
    x.mark(4, 2);
    Due.is("trace()", x.trace(), 10010201);
  }
}
