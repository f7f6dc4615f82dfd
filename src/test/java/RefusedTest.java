/** "Refused, and nothing changes, the first of these: BAD, STATE, FULL": each refusal in each state, beside a twin. */
public final class RefusedTest {
  private static final int BAD = GuessFolds.BAD, STATE = GuessFolds.STATE, FULL = GuessFolds.FULL, NO = GuessFolds.NO;
  private static final int[] NONE_OF_TWO = {-1, 2, Integer.MIN_VALUE, Integer.MAX_VALUE};
  private static final int[] STATES = {0, 1, 2, 3, 4};

  private interface Call {
    long on(GuessFolds x);
  }

  public static void main(String[] args) {
    for (int state : STATES) {
      strip(state);
      folds(state);
      had(state);
      seen(state);
      kinds(state);
    }
    whereThereIsNothing();
    whereThereIsNoRoom();
    stateAheadOfFull();
    readingChangesNothing();
    Due.end();
  }

  /** 0 a new object; 1 one that was told and used; 2 a full one at a part; 3 a full one at none; 4 read anew. */
  private static GuessFolds made(int state) {
    if (state == 0) {
      return new GuessFolds();
    }
    GuessFolds x = Due.told("strip 9;part 4;off 7;hair 5;fold 2 1;");
    x.letter(0);
    x.saw(3);
    x.keep(0);
    x.rule();
    x.letter(1);
    x.saw(8);
    x.mark(3, 2);
    x.keep(1);
    if (state == 4) {
      x.strip();
      return x;
    }
    Due.type(x, "off 9;part 2");
    if (state > 1) {
      // By 9, the middle between 0 and 4 is a part, that between 0 and 9 is none.
      fill(x, state == 2 ? 2 : 1);
    }
    return x;
  }

  private static void fill(GuessFolds x, int crease) {
    while (x.count(0) < 23) {
      x.fold(0, crease);
    }
    while (x.count(1) < 12) {
      x.letter(1);
    }
    while (x.count(2) < 8) {
      x.saw(2);
    }
    while (x.count(3) < 200) {
      x.type(' ', 1);
    }
  }

  private static void refused(int state, String call, long want, Call its) {
    GuessFolds x = made(state);
    GuessFolds twin = made(state);
    Due.is(call + " in state " + state, its.on(x), want);
    Due.is(call + " in state " + state + " again", its.on(x), want);
    Due.holds(call + " in state " + state + " changes nothing", readOut(x).equals(readOut(twin)));
  }

  /** All that an object holds, images, letters and the text too: it is used up by that. */
  private static String readOut(GuessFolds x) {
    StringBuilder all = new StringBuilder(whatIsNow(x));
    for (int image = 0; image < 2; image++) {
      all.append("image ").append(x.back(image)).append(' ').append(whatIsNow(x));
    }
    all.append("undone ").append(x.undo()).append(x.undo()).append(x.undo());
    all.append("fault ").append(x.strip()).append(" of ").append(x.count(3));
    Due.type(x, ";");
    all.append("item ").append(x.strip()).append(' ').append(whatIsNow(x));
    return all.toString();
  }

  private static String whatIsNow(GuessFolds x) {
    StringBuilder now = new StringBuilder(Due.all(x));
    for (int what = 0; what < 2; what++) {
      now.append(' ').append(x.wasted(what)).append(' ').append(x.comes(what)).append(' ').append(x.meant(what + 1));
    }
    return now.append(' ').append(x.near(99)).append(' ').append(x.fewest(1)).append(' ').toString();
  }

  // ---- BAD, in whatever state

  private static void strip(int state) {
    for (int n : new int[] {0, -1, 9, Integer.MIN_VALUE, Integer.MAX_VALUE}) {
      refused(state, "type(59, " + n + ")", BAD, x -> x.type(59, n));
    }
    for (int k : new int[] {-1, 23, Integer.MIN_VALUE, Integer.MAX_VALUE}) {
      refused(state, "crease(" + k + ", 0)", BAD, x -> x.crease(k, 0));
      refused(state, "crease(" + k + ", 7)", BAD, x -> x.crease(k, 7));
    }
    refused(state, "crease(0, 7)", BAD, x -> x.crease(0, 7));
    refused(state, "crease(0, -1)", BAD, x -> x.crease(0, -1));
    refused(state, "crease(count(0), 6)", BAD, x -> x.crease(x.count(0), 6));
    refused(state, "told(4)", BAD, x -> x.told(4));
    refused(state, "told(-1)", BAD, x -> x.told(-1));
  }

  private static void folds(int state) {
    for (int k : new int[] {-1, 23, Integer.MIN_VALUE, Integer.MAX_VALUE}) {
      refused(state, "fold(" + k + ", 1)", BAD, x -> x.fold(k, 1));
      refused(state, "fold(1, " + k + ")", BAD, x -> x.fold(1, k));
      refused(state, "fold(" + k + ", " + k + ")", BAD, x -> x.fold(k, k));
    }
    refused(state, "fold(2, 2)", BAD, x -> x.fold(2, 2));
    refused(state, "fold(count(0), 0)", BAD, x -> x.fold(x.count(0), 0));
    for (int j : new int[] {0, -1, Integer.MIN_VALUE, Integer.MAX_VALUE}) {
      refused(state, "says(" + j + ")", BAD, x -> x.says(j));
      refused(state, "round(" + j + ")", BAD, x -> x.round(j));
    }
    refused(state, "says(PARTS)", BAD, x -> x.says(x.told(0)));
    refused(state, "round(PARTS)", BAD, x -> x.round(x.told(0)));
    for (int t : new int[] {-1, 100000, Integer.MIN_VALUE, Integer.MAX_VALUE}) {
      refused(state, "near(" + t + ")", BAD, x -> x.near(t));
    }
    for (int what : NONE_OF_TWO) {
      refused(state, "wasted(" + what + ")", BAD, x -> x.wasted(what));
    }
  }

  private static void had(int state) {
    for (int j : new int[] {0, -1, Integer.MIN_VALUE, Integer.MAX_VALUE}) {
      refused(state, "fewest(" + j + ")", BAD, x -> x.fewest(j));
    }
    refused(state, "fewest(PARTS)", BAD, x -> x.fewest(x.told(0)));
    for (int what : NONE_OF_TWO) {
      refused(state, "comes(" + what + ")", BAD, x -> x.comes(what));
      refused(state, "letter(" + what + ")", BAD, x -> x.letter(what));
      refused(state, "got(" + what + ")", BAD, x -> x.got(what));
    }
    refused(state, "meant(-1)", BAD, x -> x.meant(-1));
    refused(state, "meant(3)", BAD, x -> x.meant(3));
  }

  private static void seen(int state) {
    for (int j : new int[] {0, -1, Integer.MIN_VALUE, Integer.MAX_VALUE}) {
      refused(state, "saw(" + j + ")", BAD, x -> x.saw(j));
    }
    refused(state, "saw(PARTS)", BAD, x -> x.saw(x.told(0)));
    for (int what : NONE_OF_TWO) {
      refused(state, "from(" + what + ")", BAD, x -> x.from(what));
    }
  }

  private static void kinds(int state) {
    for (int kind = -1; kind <= 6; kind++) {
      int its = kind;
      refused(state, "mark(" + kind + ", -1)", NO, x -> x.mark(its, -1));
      refused(state, "mark(" + kind + ", count(0))", NO, x -> x.mark(its, x.count(0)));
    }
    refused(state, "mark(-1, 0)", NO, x -> x.mark(-1, 0));
    refused(state, "mark(6, 0)", NO, x -> x.mark(6, 0));
    for (int image : NONE_OF_TWO) {
      refused(state, "keep(" + image + ")", BAD, x -> x.keep(image));
      refused(state, "back(" + image + ")", BAD, x -> x.back(image));
    }
    refused(state, "count(4)", BAD, x -> x.count(4));
    refused(state, "count(-1)", BAD, x -> x.count(-1));
  }

  // ---- STATE, FULL, faults

  private static void whereThereIsNothing() {
    for (int state : new int[] {0, 4}) {
      refused(state, "undo()", STATE, GuessFolds::undo);
      refused(state, "back(0)", STATE, x -> x.back(0));
      refused(state, "back(1)", STATE, x -> x.back(1));
    }
  }

  private static void whereThereIsNoRoom() {
    for (int state : new int[] {2, 3}) {
      refused(state, "fold(0, 1)", FULL, x -> x.fold(0, 1));
      refused(state, "letter(0)", FULL, x -> x.letter(0));
      refused(state, "letter(1)", FULL, x -> x.letter(1));
      refused(state, "saw(1)", FULL, x -> x.saw(1));
      refused(state, "saw(2)", FULL, x -> x.saw(2));
      refused(state, "type(59, 1)", FULL, x -> x.type(59, 1));
      refused(state, "type(59, 8)", FULL, x -> x.type(59, 8));
    }
    refused(1, "strip() of a text that ends too early", -22, GuessFolds::strip);
    refused(2, "strip() of a full text that ends too early", -210, GuessFolds::strip);
  }

  private static void stateAheadOfFull() {
    refused(2, "rule() at a part", FULL, GuessFolds::rule);
    refused(3, "rule() at none", STATE, GuessFolds::rule);
  }

  /** What only asks must not change anything either. */
  private static void readingChangesNothing() {
    for (int state : STATES) {
      GuessFolds x = made(state);
      GuessFolds twin = made(state);
      whatIsNow(x);
      for (int j = 1; j < x.told(0); j++) {
        x.says(j);
        x.round(j);
        x.fewest(j);
      }
      x.near(0);
      x.trace();
      Due.holds("reading in state " + state + " changes nothing", readOut(x).equals(readOut(twin)));
    }
  }
}
