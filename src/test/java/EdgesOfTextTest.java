/** Promises 1 to 6 at their edges: a test for each sentence of the document that names one. */
public final class EdgesOfTextTest {
  private static final String TELLS_ALL = "strip 7;part 3;off 8;hair 2;fold 2 1;";

  public static void main(String[] args) {
    p1ANewObjectHasNothingOfAnother();
    p2BytesAreOneToEight();
    p2OnlyTheLowestBytesCome();
    p2TheHighestComesFirst();
    p2EveryByteCounts();
    p2TheTextHoldsTwoHundred();
    p2BadComesAheadOfFull();
    p2ARefusedTypeLeavesNoByte();
    p3AnEmptyAndAFullText();
    p3NothingOldIsRead();
    p4NoItems();
    p4MostItems();
    p4Parts();
    p4Part();
    p4OffAndHair();
    p4OnceEach();
    p4AheadOfAnyFold();
    p4AStripBehindAPart();
    p4CreasesThereAreThen();
    p4TwentyFolds();
    p4EachByteAlone();
    p4EachByteBehindANumber();
    p4EachByteBehindAWord();
    p4WordsThatAreNone();
    p4Numbers();
    p4NumbersThatWouldWrap();
    p4EndsTooEarly();
    p4EndsTooEarlyAtTwoHundred();
    p4BlanksAsMayBe();
    p4AFaultLeavesTheText();
    p4ReadAnew();
    p5Creases();
    p5Whats();
    p5NothingIsNoughtByOne();
    p5ThePartsAtTheEnds();
    p5TwentyHalves();
    p6Whats();
    p6TheLeastAndTheMost();
    Due.end();
  }

  private static void reads(String text, int want) {
    GuessFolds x = new GuessFolds();
    Due.type(x, text);
    Due.is("count(3) of '" + text + "'", x.count(3), text.length());
    Due.is("strip() of '" + text + "'", x.strip(), want);
  }

  private static void fault(String text, int place) {
    reads(text, -10 - place);
  }

  private static GuessFolds typed(String text) {
    GuessFolds x = new GuessFolds();
    Due.type(x, text);
    return x;
  }

  // ---- a new object

  private static void p1ANewObjectHasNothingOfAnother() {
    GuessFolds one = Due.told(TELLS_ALL);
    one.letter(1);
    one.saw(1);
    one.keep(0);
    one.mark(5, 0);
    Due.type(one, "off 1;");
    GuessFolds other = new GuessFolds();
    Due.is("count(0)", other.count(0), 3);
    Due.is("count(1)", other.count(1), 0);
    Due.is("count(2)", other.count(2), 0);
    Due.is("count(3)", other.count(3), 0);
    Due.is("told(0)", other.told(0), 5);
    Due.is("told(1)", other.told(1), 1);
    Due.is("told(2)", other.told(2), 0);
    Due.is("told(3)", other.told(3), 0);
    Due.is("trace()", other.trace(), 0);
    Due.is("back(0)", other.back(0), GuessFolds.STATE);
    Due.is("undo()", other.undo(), GuessFolds.STATE);
  }

  // ---- type

  private static void p2BytesAreOneToEight() {
    GuessFolds x = new GuessFolds();
    Due.is("type(0, 0)", x.type(0, 0), GuessFolds.BAD);
    Due.is("type(0, 9)", x.type(0, 9), GuessFolds.BAD);
    Due.is("type(0, -1)", x.type(0, -1), GuessFolds.BAD);
    Due.is("type(0, -8)", x.type(0, -8), GuessFolds.BAD);
    Due.is("type(0, least)", x.type(0, Integer.MIN_VALUE), GuessFolds.BAD);
    Due.is("type(0, most)", x.type(0, Integer.MAX_VALUE), GuessFolds.BAD);
    Due.is("count(3)", x.count(3), 0);
    int had = 0;
    for (int n = 1; n <= 8; n++) {
      had += n;
      Due.is("type(0, " + n + ")", x.type(0, n), had);
    }
  }

  private static void p2OnlyTheLowestBytesCome() {
    long text = 0x3b6f666620323b20L;
    for (int n = 1; n <= 8; n++) {
      GuessFolds x = new GuessFolds();
      Due.is("type", x.type(text, n), n);
      // ";off 2; " from its end: a text of n bytes, each a fault but for those that are whole.
      int[] due = {0, -10, -10, -11, -10, -10, 1, -10};
      Due.is("strip() of the lowest " + n, x.strip(), due[n - 1]);
    }
  }

  private static void p2TheHighestComesFirst() {
    GuessFolds x = new GuessFolds();
    x.type(0x6f66662032313bL, 7);
    Due.is("strip() of 'off 21;'", x.strip(), 1);
    Due.is("told(2)", x.told(2), 21);
    x.type(0x6f66662039383bL, 7);
    Due.is("strip() of 'off 98;'", x.strip(), 1);
    Due.is("told(2)", x.told(2), 98);
  }

  private static void p2EveryByteCounts() {
    for (int b = 0; b < 256; b++) {
      GuessFolds x = new GuessFolds();
      Due.is("type(" + b + ", 1)", x.type(b, 1), 1);
      Due.is("type(" + (b - 256L) + ", 1)", x.type(b - 256L, 1), 2);
    }
    GuessFolds x = new GuessFolds();
    Due.is("type of the least number", x.type(Long.MIN_VALUE, 8), 8);
    Due.is("type of the greatest number", x.type(Long.MAX_VALUE, 8), 16);
    Due.is("type of -1", x.type(-1, 8), 24);
  }

  private static GuessFolds withBlanks(int bytes) {
    GuessFolds x = typed(" ".repeat(bytes));
    Due.is("count(3)", x.count(3), bytes);
    return x;
  }

  private static void p2TheTextHoldsTwoHundred() {
    for (int n = 1; n <= 8; n++) {
      Due.is("type to 200 by " + n, withBlanks(200 - n).type(32, n), 200);
      Due.is("type to 201 by " + n, withBlanks(201 - n).type(32, n), GuessFolds.FULL);
      Due.is("type to more by " + n, withBlanks(200).type(32, n), GuessFolds.FULL);
    }
  }

  private static void p2BadComesAheadOfFull() {
    GuessFolds x = withBlanks(200);
    Due.is("type(32, 0) in a full text", x.type(32, 0), GuessFolds.BAD);
    Due.is("type(32, 9) in a full text", x.type(32, 9), GuessFolds.BAD);
    Due.is("type(32, -1) in a full text", x.type(32, -1), GuessFolds.BAD);
    Due.is("type(32, most) in a full text", x.type(32, Integer.MAX_VALUE), GuessFolds.BAD);
    Due.is("type(32, 1) in a full text", x.type(32, 1), GuessFolds.FULL);
  }

  private static void p2ARefusedTypeLeavesNoByte() {
    GuessFolds x = withBlanks(194);
    Due.is("type of eight", x.type(0x7878787878787878L, 8), GuessFolds.FULL);
    Due.is("count(3)", x.count(3), 194);
    Due.is("type of none", x.type(0x78, 0), GuessFolds.BAD);
    Due.is("type of six", x.type(0x6f666620333bL, 6), 200);
    Due.is("type of one", x.type(0x78, 1), GuessFolds.FULL);
    Due.is("strip()", x.strip(), 1);
    Due.is("told(2)", x.told(2), 3);
  }

  // ---- clear

  private static void p3AnEmptyAndAFullText() {
    GuessFolds x = new GuessFolds();
    Due.is("clear() of an empty text", x.clear(), 0);
    Due.is("clear() of a full text", withBlanks(200).clear(), 200);
    GuessFolds y = withBlanks(200);
    y.clear();
    Due.is("count(3)", y.count(3), 0);
    Due.is("type behind clear()", y.type(32, 8), 8);
  }

  private static void p3NothingOldIsRead() {
    GuessFolds x = typed("off 123;");
    x.clear();
    Due.type(x, "off");
    Due.is("strip() of 'off'", x.strip(), -13);
    Due.type(x, " 1");
    Due.is("strip() of 'off 1'", x.strip(), -15);
    Due.type(x, ";");
    Due.is("strip() of 'off 1;'", x.strip(), 1);
    Due.is("told(2)", x.told(2), 1);
    GuessFolds y = typed("offx");
    y.clear();
    Due.type(y, "off");
    Due.is("strip() of 'off' over 'offx'", y.strip(), -13);
  }

  // ---- strip: items

  private static void p4NoItems() {
    reads("", 0);
    reads(" ", 0);
    reads(" ".repeat(200), 0);
  }

  /** Four that tell, and twenty folds. */
  private static void p4MostItems() {
    String text = "strip63;part62;off99;hair9;" + "fold2 1;".repeat(20);
    GuessFolds x = typed(text);
    Due.is("strip() of 24 items", x.strip(), 24);
    Due.is("count(0)", x.count(0), 23);
    Due.is("told(0)", x.told(0), 63);
    Due.is("told(1)", x.told(1), 62);
    Due.is("told(2)", x.told(2), 99);
    Due.is("told(3)", x.told(3), 9);
  }

  private static void p4Parts() {
    for (int n = 0; n <= 101; n++) {
      boolean may = n % 2 == 1 && n >= 3 && n <= 63;
      reads("strip " + n + ";", may ? 1 : -16);
    }
  }

  private static void p4Part() {
    for (int n = 0; n <= 101; n++) {
      reads("part " + n + ";", n >= 1 && n <= 4 ? 1 : -15);
      reads("strip 3;part " + n + ";", n >= 1 && n <= 2 ? 2 : -23);
      reads("strip 63;part " + n + ";", n >= 1 && n <= 62 ? 2 : -24);
    }
    // What a part may be hangs on the strip of this text, not on that of the one before.
    GuessFolds x = Due.told("strip 63;part 62;");
    Due.type(x, "part 5;");
    Due.is("strip() of a part that was one before", x.strip(), -15);
  }

  private static void p4OffAndHair() {
    for (int n = 0; n <= 101; n++) {
      reads("off " + n + ";", n <= 99 ? 1 : -14);
      reads("hair " + n + ";", n <= 9 ? 1 : -15);
    }
  }

  private static void p4OnceEach() {
    fault("strip 5;strip 5;", 8);
    fault("strip 5;off 0;strip 5;", 14);
    fault("part 1;part 1;", 7);
    fault("part 1;off 0;part 1;", 13);
    fault("off 0;off 0;", 6);
    fault("off 0;hair 0;off 0;", 13);
    fault("hair 0;hair 0;", 7);
    fault("hair 0;off 0;hair 0;", 13);
    // A text that was read, or had a fault, is not told again by the next.
    GuessFolds x = Due.told("strip 5;part 1;off 0;hair 0;");
    Due.type(x, "strip 5;part 1;off 0;hair 0;?");
    Due.is("strip()", x.strip(), -38);
    Due.is("strip()", x.strip(), -38);
    x.clear();
    Due.type(x, "strip 5;part 1;off 0;hair 0;");
    Due.is("strip()", x.strip(), 4);
  }

  private static void p4AheadOfAnyFold() {
    fault("fold 0 1;strip 5;", 9);
    fault("fold 0 1;part 1;", 9);
    fault("fold 0 1;off 0;", 9);
    fault("fold 0 1;hair 0;", 9);
    fault("off 0;fold 0 1;hair 0;", 15);
    fault("fold 0 1; fold 0 1;strip", 19);
  }

  private static void p4AStripBehindAPart() {
    fault("part 1;strip 5;", 7);
    fault("part 1;hair 1; strip 5;", 15);
    reads("strip 5;part 1;", 2);
    reads("off 1;strip 5;hair 1;part 1;", 4);
  }

  private static void p4CreasesThereAreThen() {
    StringBuilder ahead = new StringBuilder();
    for (int creases = 3; creases < 23; creases++) {
      int at = ahead.length();
      fault(ahead + "fold" + creases + " 0;", at + 4);
      fault(ahead + "fold0 " + creases + ";", at + 6);
      fault(ahead + "fold0 0;", at + 6);
      int last = creases - 1;
      String mostFolds = "fold" + last + " 0;";
      reads(ahead + mostFolds, creases - 2);
      reads(ahead + "fold0 " + last + ";", creases - 2);
      fault(ahead + "fold" + last + " " + last + ";", at + 5 + (last > 9 ? 2 : 1));
      ahead.append("fold0 1;");
    }
  }

  private static void p4TwentyFolds() {
    String nineteen = "fold0 1;".repeat(19);
    reads(nineteen, 19);
    reads(nineteen + "fold21 1;", 20);
    fault(nineteen + "fold22 1;", 156);
    reads(nineteen + "fold0 1;", 20);
    fault(nineteen + "fold0 1;fold0 1;", 160);
    fault(nineteen + "fold0 1;fold", 160);
    fault(nineteen + "fold0 1; foldd", 161);
    reads(nineteen + "fold0 1;" + " ".repeat(40), 20);
  }

  // ---- strip: tokens

  private static boolean isLetter(int b) {
    return b >= 'a' && b <= 'z';
  }

  private static boolean isDigit(int b) {
    return b >= '0' && b <= '9';
  }

  private static void p4EachByteAlone() {
    for (int b = 0; b < 256; b++) {
      String its = String.valueOf((char) b);
      reads(its, b == ' ' ? 0 : -10);
      reads("off 1;" + its, b == ' ' ? 1 : -16);
    }
  }

  private static void p4EachByteBehindANumber() {
    for (int b = 0; b < 256; b++) {
      String text = "off 1" + (char) b + ";";
      if (b == ' ' || isDigit(b)) {
        reads(text, 1);
      } else {
        fault(text, b == ';' ? 6 : 5);
      }
    }
  }

  private static void p4EachByteBehindAWord() {
    for (int b = 0; b < 256; b++) {
      String text = "off" + (char) b + "1;";
      if (b == ' ' || isDigit(b) && b != '0') {
        reads(text, 1);
      } else {
        fault(text, isLetter(b) ? 0 : 3);
      }
    }
  }

  private static void p4WordsThatAreNone() {
    for (String word : new String[] {"strip", "part", "off", "hair", "fold"}) {
      String behind = word.equals("fold") ? " 0 1;" : word.equals("hair") || word.equals("off") ? " 0;" : " 3;";
      reads(word + behind, 1);
      fault(word.substring(1) + behind, 0);
      fault(word.substring(0, word.length() - 1) + behind, 0);
      fault(word + word + behind, 0);
      fault(word.substring(0, 1) + " " + word.substring(1) + behind, 0);
      for (int i = 0; i < word.length(); i++) {
        String other = word.substring(0, i) + 'x' + word.substring(i + 1);
        fault(" " + other + behind, 1);
        String capital = word.substring(0, i) + Character.toUpperCase(word.charAt(i)) + word.substring(i + 1);
        fault(" " + capital + behind, 1);
      }
      fault(word.toUpperCase(), 0);
    }
  }

  private static void p4Numbers() {
    reads("off 99;", 1);
    fault("off 100;", 4);
    fault("off 999;", 4);
    reads("off 0;", 1);
    fault("off 00;", 4);
    fault("off 01;", 4);
    fault("off 099;", 4);
    fault("hair  000000000;", 6);
    fault("strip 05;", 6);
    fault("part 01;", 5);
    fault("fold 00 1;", 5);
    fault("fold 0 01;", 7);
    fault("fold 0 100;", 7);
    fault("off 1 100;", 6);
    fault("100;", 0);
    fault("off 1;01", 6);
  }

  /** Numbers that are 1 again, if they are cut to 8, 16, 32, 64 bits or more. */
  private static void p4NumbersThatWouldWrap() {
    for (String number : new String[] {"257", "65537", "4294967297", "18446744073709551617",
        "340282366920938463463374607431768211457", "2147483649", "9223372036854775809"}) {
      fault("off " + number + ";", 4);
      fault("part " + number + ";", 5);
      fault("fold 0 " + number + ";", 7);
      fault("fold " + number + " 0;", 5);
    }
    fault("off 1" + "0".repeat(195), 4);
    fault("off " + "9".repeat(196), 4);
  }

  /** What is due of each beginning of a text: * where a word is cut, else the items or the length. */
  private static void p4EndsTooEarly() {
    for (int length = 0; length <= TELLS_ALL.length(); length++) {
      String text = TELLS_ALL.substring(0, length);
      int item = text.lastIndexOf(';') + 1;
      int items = text.length() - text.replace(";", "").length();
      String rest = text.substring(item);
      boolean isCut = rest.length() > 0 && !rest.matches("(strip|part|off|hair|fold)\\b.*");
      reads(text, rest.isEmpty() ? items : isCut ? -10 - item : -10 - length);
      if (!isCut && !rest.isEmpty()) {
        fault(text + "   ", length + 3);
      }
    }
  }

  private static void p4EndsTooEarlyAtTwoHundred() {
    fault(" ".repeat(197) + "off", 200);
    fault(" ".repeat(195) + "off 1", 200);
    fault("off 1" + " ".repeat(195), 200);
    reads(" ".repeat(194) + "off 1;", 1);
    fault(" ".repeat(199) + "?", 199);
    fault(" ".repeat(199) + ";", 199);
  }

  private static void p4BlanksAsMayBe() {
    reads("   off   1   ;   hair   2   ;   fold   1   0   ;   ", 3);
    reads("off1;hair2;fold1 0;", 3);
    fault("fold10;", 4);
    fault("fold1;", 5);
    fault("o ff 1;", 0);
    reads("off 1 2;", -16);
    for (char notABlank : new char[] {'\t', '\n', '\r', '\f', 11, 0, 127, 160}) {
      fault("off" + notABlank + "1;", 3);
      fault(notABlank + "off 1;", 0);
    }
  }

  private static void p4AFaultLeavesTheText() {
    GuessFolds x = typed("off 1;hair");
    Due.is("strip()", x.strip(), -20);
    Due.is("count(3)", x.count(3), 10);
    Due.is("told(2)", x.told(2), 0);
    Due.type(x, " 9;fold 0 1;");
    Due.is("strip() when it goes on", x.strip(), 3);
    Due.is("told(2)", x.told(2), 1);
    Due.is("told(3)", x.told(3), 9);
    Due.is("count(0)", x.count(0), 4);
    Due.is("count(3)", x.count(3), 0);
  }

  /** "What is not told as at first": each of the four left out. */
  private static void p4ReadAnew() {
    String[] items = {"strip 7;", "part 3;", "off 8;", "hair 2;"};
    int[] told = {7, 3, 8, 2};
    int[] first = {5, 1, 0, 0};
    for (int without = 0; without < 4; without++) {
      GuessFolds x = Due.told("strip 63;part 62;off 99;hair 9;fold 0 1;");
      for (int i = 0; i < 4; i++) {
        Due.type(x, i == without ? "" : items[i]);
      }
      Due.is("strip()", x.strip(), 3);
      for (int i = 0; i < 4; i++) {
        Due.is("told(" + i + ") without " + items[without], x.told(i), i == without ? first[i] : told[i]);
      }
      Due.is("count(0)", x.count(0), 3);
    }
  }

  // ---- crease

  private static void p5Creases() {
    GuessFolds x = new GuessFolds();
    for (int creases = 3; creases <= 23; creases++) {
      for (int what = 0; what <= 6; what++) {
        Due.is("crease(-1, " + what + ")", x.crease(-1, what), GuessFolds.BAD);
        Due.is("crease(" + creases + ", " + what + ")", x.crease(creases, what), GuessFolds.BAD);
      }
      Due.is("lower number of the last one's hairs", x.crease(creases - 1, 5), 1);
      x.fold(0, 1);
    }
    x.undo();
    Due.is("crease(22, 0) behind undo()", x.crease(22, 0), GuessFolds.BAD);
    Due.is("crease(21, 0) behind undo()", x.crease(21, 0), 1);
    Due.is("crease(least, 0)", x.crease(Integer.MIN_VALUE, 0), GuessFolds.BAD);
    Due.is("crease(most, 0)", x.crease(Integer.MAX_VALUE, 0), GuessFolds.BAD);
  }

  private static void p5Whats() {
    GuessFolds x = new GuessFolds();
    for (int k = 0; k < 3; k++) {
      for (int what : new int[] {-1, 7, 8, Integer.MIN_VALUE, Integer.MAX_VALUE}) {
        Due.is("crease(" + k + ", " + what + ")", x.crease(k, what), GuessFolds.BAD);
      }
    }
    Due.is("crease(3, 7)", x.crease(3, 7), GuessFolds.BAD);
  }

  private static void p5NothingIsNoughtByOne() {
    GuessFolds x = Due.told("strip 63;off 99;hair 9;fold 0 1;");
    Due.crease(x, 0, 0, 1, 0, 1, 0, 1, 0);
    Due.crease(x, 1, 1, 1, 0, 1, 0, 1, 63);
    Due.crease(x, 2, 1, 63, 1, 1, 0, 1, 1);
    Due.crease(x, 3, 1, 2, 0, 1, 1, 1, GuessFolds.NONE);
  }

  private static void p5ThePartsAtTheEnds() {
    GuessFolds x = Due.told("strip 63;part 62;");
    Due.is("part of the left end", x.crease(0, 6), 0);
    Due.is("part of the right end", x.crease(1, 6), 63);
    Due.is("part of the guess", x.crease(2, 6), 62);
    Due.is("part of the guess at first", new GuessFolds().crease(2, 6), 1);
    // 1 by 3 is a part of 63: 21, that of 1 by 2 is none, as PARTS are odd.
    GuessFolds y = Due.told("strip 63;part 42;fold 0 2;fold 0 1;");
    Due.crease(y, 2, 2, 3, 1, 1, 0, 1, 42);
    Due.crease(y, 3, 1, 3, 1, 2, 1, 1, 21);
    Due.is("part of one half", y.crease(4, 6), GuessFolds.NONE);
  }

  /** Twenty folds to the right end: all but one share of 63 times 2 to the 20. */
  private static void p5TwentyHalves() {
    GuessFolds x = Due.told("strip 63;part 62;");
    for (int k = 2; k < 22; k++) {
      Due.is("fold(" + k + ", 1)", x.fold(k, 1), k + 1);
    }
    long lower = 63L << 20;
    Due.crease(x, 22, lower - 1, lower, 1, 1 << 20, (1 << 20) - 1, 1 << 19, GuessFolds.NONE);
  }

  // ---- told

  private static void p6Whats() {
    GuessFolds x = new GuessFolds();
    for (int what : new int[] {-1, 4, 5, -9, Integer.MIN_VALUE, Integer.MAX_VALUE}) {
      Due.is("told(" + what + ")", x.told(what), GuessFolds.BAD);
    }
  }

  private static void p6TheLeastAndTheMost() {
    GuessFolds least = Due.told("strip 3;part 1;off 0;hair 0;");
    GuessFolds most = Due.told("strip 63;part 62;off 99;hair 9;");
    int[] leasts = {3, 1, 0, 0};
    int[] mosts = {63, 62, 99, 9};
    for (int what = 0; what < 4; what++) {
      Due.is("told(" + what + ")", least.told(what), leasts[what]);
      Due.is("told(" + what + ")", most.told(what), mosts[what]);
    }
  }
}
