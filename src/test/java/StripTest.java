/** Promises 1 to 6: a new object, the text, what it tells, where creases are. */
public final class StripTest {
  public static void main(String[] args) {
    aNewObject();
    type();
    clear();
    whatTheTextTells();
    tokens();
    orderOfItems();
    faults();
    faultOfTheFirst();
    faultsOfFolds();
    readAnew();
    crease();
    told();
    Due.end();
  }

  private static void aNewObject() {
    GuessFolds x = new GuessFolds();
    Due.is("count(0)", x.count(0), 3);
    Due.is("count(1)", x.count(1), 0);
    Due.is("count(2)", x.count(2), 0);
    Due.is("count(3)", x.count(3), 0);
    Due.is("told(0)", x.told(0), 5);
    Due.is("told(1)", x.told(1), 1);
    Due.is("told(2)", x.told(2), 0);
    Due.is("told(3)", x.told(3), 0);
    Due.crease(x, 0, 0, 1, 0, 1, 0, 1, 0);
    Due.crease(x, 1, 1, 1, 0, 1, 0, 1, 5);
    Due.crease(x, 2, 1, 5, 1, 1, 0, 1, 1);
    Due.is("trace()", x.trace(), 0);
    Due.is("back(0)", x.back(0), GuessFolds.STATE);
    Due.is("back(1)", x.back(1), GuessFolds.STATE);
    Due.is("wrong()", x.wrong(), GuessFolds.NONE);
    Due.is("from(0)", x.from(0), 0);
  }

  private static void type() {
    GuessFolds x = new GuessFolds();
    for (int n : new int[] {0, -1, 9, Integer.MIN_VALUE, Integer.MAX_VALUE}) {
      Due.is("type(1, " + n + ")", x.type(1, n), GuessFolds.BAD);
    }
    Due.is("count(3)", x.count(3), 0);
    // "of" as the lowest two bytes, with others ahead of them that do not come.
    Due.is("type", x.type(0x7878787878786f66L, 2), 2);
    Due.is("type", x.type(0x6620393bL, 4), 6);
    Due.is("strip()", x.strip(), 1);
    Due.is("told(2)", x.told(2), 9);
    Due.is("type of a number below 0", x.type(-1, 8), 8);
    Due.is("strip()", x.strip(), -10);
    Due.is("clear()", x.clear(), 8);
    room();
  }

  private static void room() {
    GuessFolds x = new GuessFolds();
    for (int i = 1; i <= 24; i++) {
      Due.is("type", x.type(0x2020202020202020L, 8), 8 * i);
    }
    Due.is("type to 199", x.type(0x20202020202020L, 7), 199);
    Due.is("type beyond 200", x.type(0x2020L, 2), GuessFolds.FULL);
    Due.is("type beyond 200", x.type(0x20L, 8), GuessFolds.FULL);
    Due.is("type in a full text of no bytes", x.type(0x20L, 0), GuessFolds.BAD);
    Due.is("count(3)", x.count(3), 199);
    Due.is("type to 200", x.type(0x20L, 1), 200);
    Due.is("type beyond 200", x.type(0x20L, 1), GuessFolds.FULL);
    Due.is("type of nine bytes", x.type(0x20L, 9), GuessFolds.BAD);
    Due.is("count(3)", x.count(3), 200);
    Due.is("strip()", x.strip(), 0);
    Due.is("count(3)", x.count(3), 0);
    Due.is("type again", x.type(0x20L, 1), 1);
  }

  private static void clear() {
    GuessFolds x = new GuessFolds();
    Due.is("clear()", x.clear(), 0);
    Due.type(x, "strip 7;off 9");
    Due.is("clear()", x.clear(), 13);
    Due.is("clear()", x.clear(), 0);
    Due.is("told(0)", x.told(0), 5);
    Due.type(x, "hair 1;");
    Due.is("count(3)", x.count(3), 7);
    Due.is("strip()", x.strip(), 1);
    Due.is("told(3)", x.told(3), 1);
  }

  private static void tells(String text, int items, int parts, int part, int off, int hair, int creases) {
    GuessFolds x = new GuessFolds();
    Due.type(x, text);
    Due.is("strip() of '" + text + "'", x.strip(), items);
    Due.is("told(0) by '" + text + "'", x.told(0), parts);
    Due.is("told(1) by '" + text + "'", x.told(1), part);
    Due.is("told(2) by '" + text + "'", x.told(2), off);
    Due.is("told(3) by '" + text + "'", x.told(3), hair);
    Due.is("count(0) by '" + text + "'", x.count(0), creases);
    Due.is("count(3) by '" + text + "'", x.count(3), 0);
  }

  private static void whatTheTextTells() {
    tells("", 0, 5, 1, 0, 0, 3);
    tells("    ", 0, 5, 1, 0, 0, 3);
    tells("strip 3;", 1, 3, 1, 0, 0, 3);
    tells("strip 63;part 62;off 99;hair 9;", 4, 63, 62, 99, 9, 3);
    tells("part 4;", 1, 5, 4, 0, 0, 3);
    tells("off 0;hair 0;", 2, 5, 1, 0, 0, 3);
    tells("fold 0 1;", 1, 5, 1, 0, 0, 4);
    tells("fold 0 1;fold 3 2;fold 4 0;", 3, 5, 1, 0, 0, 6);
    String twenty = "fold 0 1;".repeat(20);
    tells(twenty, 20, 5, 1, 0, 0, 23);
    tells("strip 7;" + twenty, 21, 7, 1, 0, 0, 23);
    tells("fold0 1;".repeat(19) + "fold 21 20;", 20, 5, 1, 0, 0, 23);
  }

  private static void tokens() {
    tells("strip7;part3;off8;hair2;fold2 1;", 5, 7, 3, 8, 2, 4);
    tells("   strip   7  ;  part   3 ; fold  2   0  ;  ", 3, 7, 3, 0, 0, 4);
    tells("fold 2 1;fold3 0;", 2, 5, 1, 0, 0, 5);
    fault("fold 21;", 5);
    fault("fold 2 ;", 7);
    fault("str ip 7;", 0);
    fault("strip 1 1;", 6);
    fault("strip\t7;", 5);
    fault("strip 7;\n", 8);
    fault("Strip 7;", 0);
    fault("sTrip 7;", 0);
    fault("strip -7;", 6);
    fault("off +7;", 4);
    fault("off 7.;", 5);
    fault("`", 0);
    fault("{", 0);
    fault("/", 0);
    fault(":", 0);
    fault("off 1:;", 5);
    fault("off 1/;", 5);
    fault("off{1;", 3);
    fault("off`1;", 3);
    fault("\0", 0);
    fault("off 1;\u00ff", 6);
    fault("off\u00a01;", 3);
  }

  /** In any order, but a strip behind a part. */
  private static void orderOfItems() {
    tells("hair 3;off 2;strip 9;part 8;", 4, 9, 8, 2, 3, 3);
    tells("off 2;part 4;hair 3;", 3, 5, 4, 2, 3, 3);
    tells("off 1;strip 3;part 2;fold 2 1;", 4, 3, 2, 1, 0, 4);
    fault("part 2;strip 7;", 7);
    fault("part 2;off 1;strip 7;", 13);
    fault("off 1;part 2;hair 1;off 1;", 20);
  }

  /** The fault is told, and nothing changes: neither what was told, nor creases, nor the text. */
  private static void fault(String text, int place) {
    GuessFolds x = Due.told("strip 9;part 4;off 7;hair 5;fold 2 1;");
    x.letter(1);
    x.saw(3);
    x.keep(1);
    x.fold(0, 1);
    x.mark(1, 2);
    Due.type(x, text);
    String before = Due.all(x);
    Due.is("strip() of '" + text + "'", x.strip(), -10 - place);
    Due.is("strip() of '" + text + "' again", x.strip(), -10 - place);
    Due.holds("'" + text + "' changed nothing", before.equals(Due.all(x)));
    Due.is("clear() behind '" + text + "'", x.clear(), text.length());
    Due.is("back(1) behind '" + text + "'", x.back(1), 4);
  }

  private static void faults() {
    fault("strip", 5);
    fault("strip ", 6);
    fault("strip   ", 8);
    fault("strip 7", 7);
    fault("strip 7  ", 9);
    fault("strip 7 part", 8);
    fault("strip 7 8;", 8);
    fault("strip;", 5);
    fault("strip strip", 6);
    fault("strip 0;", 6);
    fault("strip 1;", 6);
    fault("strip 2;", 6);
    fault("strip 4;", 6);
    fault("strip 62;", 6);
    fault("strip 64;", 6);
    fault("strip 65;", 6);
    fault("strip 99;", 6);
    fault("strip 100;", 6);
    fault("strip 07;", 6);
    fault("strip 00;", 6);
    fault("strip   007;", 8);
    fault("part 0;", 5);
    fault("part 5;", 5);
    fault("strip 3;part 3;", 13);
    fault("strip 63;part 63;", 14);
    fault("off 100;", 4);
    fault("off 4294967297;", 4);
    fault("off 18446744073709551617;", 4);
    fault("off 00;", 4);
    fault("hair 10;", 5);
    fault("hair 09;", 5);
    fault(";", 0);
    fault("off 1;;", 6);
    fault("7;", 0);
    fault("off 1;7", 6);
    fault("off 1 off", 6);
    fault("stri", 0);
    fault("strips", 0);
    fault("stripp 7;", 0);
    fault("offpart 7;", 0);
    fault("foldd 0 1;", 0);
    fault("hai 1;", 0);
    fault("  parts 1;", 2);
    fault("abcde 1;", 0);
    fault("stripz 7;", 0);
    fault("stripa 7;", 0);
    fault("xtrip 7;", 0);
    fault("cart 1;", 0);
    fault("fair 1;", 0);
    fault("cold 0 1;", 0);
    fault("zff 1;", 0);
  }

  /** Of more faults than one it is the first by its place. */
  private static void faultOfTheFirst() {
    fault("strip 7;part 9;?", 13);
    fault("strip 7?part 9;", 7);
    fault("off 1;off 200;", 6);
    fault("part 1;strip 4;", 7);
    fault("fold 0 0 0;", 7);
    fault("off x;", 4);
  }

  private static void faultsOfFolds() {
    fault("fold", 4);
    fault("fold ", 5);
    fault("fold;", 4);
    fault("fold 0", 6);
    fault("fold 0;", 6);
    fault("fold 0 1", 8);
    fault("fold 0 1 ", 9);
    fault("fold 0 1 2;", 9);
    fault("fold 3 0;", 5);
    fault("fold 0 3;", 7);
    fault("fold 0 0;", 7);
    fault("fold 2 2;", 7);
    fault("fold 0 01;", 7);
    fault("fold 00 1;", 5);
    fault("fold fold", 5);
    fault("fold 0 1;fold 4 0;", 14);
    fault("fold 0 1;fold 0 4;", 16);
    fault("fold 0 1;fold 3 3;", 16);
    fault("fold 0 1;strip 7;", 9);
    fault("fold 0 1;part 1;", 9);
    fault("fold 0 1;off 1;", 9);
    fault("fold 0 1;hair 1;", 9);
    fault("strip 7;strip 7;", 8);
    fault("part 1;part 1;", 7);
    fault("off 1;off 1;", 6);
    fault("hair 1;hair 1;", 7);
    fault("fold 0 1;".repeat(20) + "fold 0 1;", 180);
    fault("fold 0 1;".repeat(20) + "off 1;", 180);
    fault("fold 0 1;".repeat(20) + "f", 180);
  }

  private static void readAnew() {
    GuessFolds x = Due.told("strip 7;part 3;off 8;hair 2;fold 2 1;");
    x.letter(0);
    x.saw(1);
    x.keep(0);
    x.keep(1);
    x.mark(0, 0);
    Due.is("strip() of nothing", x.strip(), 0);
    Due.is("told(0)", x.told(0), 5);
    Due.is("told(1)", x.told(1), 1);
    Due.is("told(2)", x.told(2), 0);
    Due.is("told(3)", x.told(3), 0);
    Due.is("count(0)", x.count(0), 3);
    Due.is("count(1)", x.count(1), 0);
    Due.is("count(2)", x.count(2), 0);
    Due.is("back(0)", x.back(0), GuessFolds.STATE);
    Due.is("back(1)", x.back(1), GuessFolds.STATE);
    Due.is("trace()", x.trace(), 1);
    Due.crease(x, 1, 1, 1, 0, 1, 0, 1, 5);
    Due.crease(x, 2, 1, 5, 1, 1, 0, 1, 1);
    Due.type(x, "off 3;fold 1 2;");
    Due.is("strip()", x.strip(), 2);
    Due.is("told(2)", x.told(2), 3);
    Due.crease(x, 3, 3, 5, 1, 2, 1, 1, 3);
  }

  private static void crease() {
    GuessFolds x = Due.told("strip 9;part 3;fold 2 0;fold 3 2;fold 1 0;");
    Due.crease(x, 0, 0, 1, 0, 1, 0, 1, 0);
    Due.crease(x, 1, 1, 1, 0, 1, 0, 1, 9);
    Due.crease(x, 2, 1, 3, 1, 1, 0, 1, 3);
    Due.crease(x, 3, 1, 6, 1, 2, 1, 1, GuessFolds.NONE);
    Due.crease(x, 4, 1, 4, 3, 4, 3, 2, GuessFolds.NONE);
    Due.crease(x, 5, 1, 2, 0, 1, 1, 1, GuessFolds.NONE);
    for (int k : new int[] {-1, 6, 23, Integer.MIN_VALUE, Integer.MAX_VALUE}) {
      Due.is("crease(" + k + ", 0)", x.crease(k, 0), GuessFolds.BAD);
    }
    for (int what : new int[] {-1, 7, Integer.MIN_VALUE, Integer.MAX_VALUE}) {
      Due.is("crease(0, " + what + ")", x.crease(0, what), GuessFolds.BAD);
    }
    thePartsOfCreases();
    theFinestFraction();
  }

  private static void thePartsOfCreases() {
    GuessFolds x = Due.told("strip 63;part 62;fold 2 0;fold 3 1;fold 4 0;");
    Due.crease(x, 2, 62, 63, 1, 1, 0, 1, 62);
    Due.crease(x, 3, 31, 63, 1, 2, 1, 1, 31);
    Due.crease(x, 4, 47, 63, 1, 4, 3, 2, 47);
    Due.crease(x, 5, 47, 126, 1, 8, 7, 4, GuessFolds.NONE);
  }

  /** Twenty folds to the left end: 1 by 63 times 2 to the 20. */
  private static void theFinestFraction() {
    GuessFolds x = Due.told("strip 63;");
    for (int k = 2; k < 22; k++) {
      Due.is("fold(0, " + k + ")", x.fold(0, k), k + 1);
    }
    Due.crease(x, 22, 1, 63L << 20, 1, 1 << 20, (1 << 20) - 1, 1 << 19, GuessFolds.NONE);
    GuessFolds y = new GuessFolds();
    y.fold(0, 1);
    for (int k = 3; k < 22; k++) {
      y.fold(k, k == 3 ? 2 : k - 1);
    }
    Due.is("count(0)", y.count(0), 23);
    Due.fraction("offness of 4", y.crease(4, 2), y.crease(4, 3), 1, 2);
  }

  private static void told() {
    GuessFolds x = Due.told("strip 33;part 32;off 98;hair 8;");
    Due.is("told(0)", x.told(0), 33);
    Due.is("told(1)", x.told(1), 32);
    Due.is("told(2)", x.told(2), 98);
    Due.is("told(3)", x.told(3), 8);
    for (int what : new int[] {-1, 4, Integer.MIN_VALUE, Integer.MAX_VALUE}) {
      Due.is("told(" + what + ")", x.told(what), GuessFolds.BAD);
    }
  }
}
