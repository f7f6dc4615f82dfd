import java.nio.charset.StandardCharsets;

/** What the tests share: compares answers, types texts, ends the run. */
final class Due {
  private static int wrong = 0;
  private static int asked = 0;

  private Due() {}

  static void is(String call, long got, long want) {
    asked++;
    if (got != want) {
      wrong++;
      System.out.println(call + " answered " + got + ", due is " + want);
    }
  }

  static void holds(String what, boolean does) {
    is(what, does ? 1 : 0, 1);
  }

  /** A fraction of two answers that must be in least terms as told. */
  static void fraction(String call, long upper, long lower, long wantUpper, long wantLower) {
    is(call + ", upper number", upper, wantUpper);
    is(call + ", lower number", lower, wantLower);
  }

  static void crease(GuessFolds x, int k, long... want) {
    for (int what = 0; what < want.length; what++) {
      is("crease(" + k + ", " + what + ")", x.crease(k, what), want[what]);
    }
  }

  /** Types a text of any length, eight bytes a call. */
  static void type(GuessFolds x, String text) {
    byte[] bytes = text.getBytes(StandardCharsets.ISO_8859_1);
    for (int at = 0; at < bytes.length; at += 8) {
      long v = 0;
      int n = Math.min(8, bytes.length - at);
      for (int i = 0; i < n; i++) {
        v = v << 8 | bytes[at + i] & 255;
      }
      x.type(v, n);
    }
  }

  /** A new object that a text has told all to. */
  static GuessFolds told(String text) {
    GuessFolds x = new GuessFolds();
    type(x, text);
    int items = x.strip();
    holds("strip() of " + text, items >= 0);
    return x;
  }

  /** Every number that can be asked for without a change, to see that a refused call changed nothing. */
  static String all(GuessFolds x) {
    StringBuilder all = new StringBuilder();
    for (int what = 0; what < 4; what++) {
      all.append(x.told(what)).append(' ').append(x.count(what)).append(' ');
    }
    for (int k = 0; k < x.count(0); k++) {
      for (int what = 0; what < 7; what++) {
        all.append(x.crease(k, what)).append(' ');
      }
    }
    all.append(x.got(0)).append(' ').append(x.got(1)).append(' ').append(x.wrong()).append(' ');
    all.append(x.meant(0)).append(' ').append(x.from(0)).append(' ').append(x.from(1)).append(' ');
    return all.append(x.trace()).toString();
  }

  static void end() {
    System.out.println(wrong == 0 ? asked + " answers are as due" : wrong + " of " + asked + " answers are not as due");
    if (wrong != 0) {
      System.exit(1);
    }
  }
}
