import java.util.ArrayList;
import java.util.Arrays;
import java.util.List;
import java.util.Random;
import java.util.TreeSet;
import java.util.regex.Matcher;
import java.util.regex.Pattern;

/** Long runs of calls, all promises together, against a second, plainer program: Model. */
public final class ModelTest {
  private static final int CALLS_OF_AN_OBJECT = 512;
  private static final String[] WORDS = {"strip", "part", "off", "hair", "fold"};

  private final Random random;
  private final GuessFolds x = new GuessFolds();
  private final Model model = new Model();
  private final String run;
  private String waiting = "";

  private ModelTest(int seed) {
    random = new Random(seed);
    run = "run " + seed + ": ";
  }

  public static void main(String[] args) {
    for (int seed = 0; seed < 3000; seed++) {
      ModelTest test = new ModelTest(seed);
      for (int calls = 0; calls < CALLS_OF_AN_OBJECT; calls++) {
        test.call();
      }
    }
    Due.end();
  }

  /** Mostly what is allowed, often just beyond it, now and then far off. */
  private int some(int least, int most) {
    int kind = random.nextInt(40);
    if (kind == 0) {
      return random.nextInt();
    }
    if (kind == 1) {
      return random.nextBoolean() ? Integer.MIN_VALUE : Integer.MAX_VALUE;
    }
    return least - 1 + random.nextInt(most - least + 3) + (kind < 5 ? 0 : random.nextInt(2));
  }

  private int someCrease() {
    return random.nextInt(3) == 0 ? model.where.size() - 1 : some(0, model.where.size() - 1);
  }

  private int somePart() {
    return some(1, model.parts - 1);
  }

  private void due(String call, long got, long want) {
    Due.is(run + call, got, want);
  }

  private void call() {
    if (!waiting.isEmpty()) {
      typeSome();
      return;
    }
    switch (random.nextInt(16)) {
      case 0: case 1: callText(); break;
      case 2: case 3: case 4: case 5: callFolds(); break;
      case 6: case 7: case 8: callParts(); break;
      case 9: case 10: case 11: callLetters(); break;
      case 12: case 13: callSeen(); break;
      default: callKinds(); break;
    }
  }

  private void typeSome() {
    int n = Math.min(waiting.length(), 1 + random.nextInt(8));
    long v = random.nextLong();
    for (int i = 0; i < n; i++) {
      v = v << 8 | waiting.charAt(i);
    }
    waiting = waiting.substring(n);
    due("type(" + v + ", " + n + ")", x.type(v, n), model.type(v, n));
  }

  private void callText() {
    switch (random.nextInt(8)) {
      case 0:
        long v = random.nextLong();
        int n = some(1, 8);
        due("type(" + v + ", " + n + ")", x.type(v, n), model.type(v, n));
        break;
      case 1: due("clear()", x.clear(), model.clear()); break;
      case 2: case 3: waiting = someText(); break;
      case 4: if (random.nextInt(3) > 0) { waiting = someText(); break; }
      // falls through
      default:
        String text = model.text.toString();
        due("strip() of '" + text + "'", x.strip(), model.strip());
        break;
    }
  }

  /** A text as it should be, but for a byte here and there. */
  private String someText() {
    StringBuilder text = new StringBuilder();
    int wild = random.nextInt(3) == 0 ? 8 : 60;
    int parts = 5;
    for (int word = 0; word < 4; word++) {
      int which = random.nextInt(wild) == 0 ? random.nextInt(4) : word;
      if (random.nextInt(3) > 0) {
        int number = which == 0 ? 3 + 2 * random.nextInt(31) : which == 1 ? 1 + random.nextInt(parts - 1)
            : which == 2 ? random.nextInt(100) : random.nextInt(10);
        parts = which == 0 ? number : parts;
        append(text, WORDS[which], number + (random.nextInt(wild) == 0 ? random.nextInt(70) - 35 : 0));
      }
    }
    int folds = random.nextInt(3) == 0 ? random.nextInt(24) : random.nextInt(5);
    for (int i = 0; i < folds; i++) {
      int first = random.nextInt(i + 3);
      int second = (first + 1 + random.nextInt(i + 2)) % (i + 3);
      append(text, "fold", first, random.nextInt(wild) == 0 ? second + 1 : second);
    }
    if (random.nextInt(3) == 0 && text.length() > 0) {
      text.setCharAt(random.nextInt(text.length()), (char) random.nextInt(random.nextBoolean() ? 256 : 128));
    }
    if (random.nextInt(6) == 0) {
      text.setLength(random.nextInt(text.length() + 1));
    }
    return text.toString();
  }

  private void append(StringBuilder text, String word, int... numbers) {
    text.append(blanks(0)).append(word).append(blanks(0));
    for (int i = 0; i < numbers.length; i++) {
      text.append(i == 0 ? "" : blanks(1)).append(numbers[i]);
    }
    text.append(blanks(0)).append(";").append(blanks(0));
  }

  private String blanks(int least) {
    return " ".repeat(least + (random.nextInt(6) == 0 ? random.nextInt(3) : 0));
  }

  private void callFolds() {
    switch (random.nextInt(6)) {
      case 0:
        int i = someCrease();
        int j = someCrease();
        due("fold(" + i + ", " + j + ")", x.fold(i, j), model.fold(i, j));
        break;
      case 1: case 2: due("rule()", x.rule(), model.rule()); break;
      case 3: if (random.nextInt(2) == 0) { due("undo()", x.undo(), model.undo()); } break;
      default:
        int k = someCrease();
        int what = some(0, 6);
        due("crease(" + k + ", " + what + ")", x.crease(k, what), model.crease(k, what));
        break;
    }
  }

  private void callParts() {
    int j = somePart();
    int what = some(0, 1);
    switch (random.nextInt(7)) {
      case 0: due("told(" + j + ")", x.told(j), model.told(j)); break;
      case 1: due("says(" + j + ")", x.says(j), model.says(j)); break;
      case 2: due("round(" + j + ")", x.round(j), model.round(j)); break;
      case 3:
        int t = random.nextBoolean() ? some(0, 99999) : random.nextInt(model.off * 1000 + 4) >> random.nextInt(18);
        due("near(" + t + ")", x.near(t), model.near(t));
        break;
      case 4: due("wasted(" + what + ")", x.wasted(what), model.wasted(what)); break;
      case 5: due("fewest(" + j + ")", x.fewest(j), model.fewest(j)); break;
      default: due("comes(" + what + ")", x.comes(what), model.comes(what)); break;
    }
  }

  private void callLetters() {
    int what = some(0, 2);
    switch (random.nextInt(8)) {
      case 0: due("letter(" + what + ")", x.letter(what), model.letter(what)); break;
      case 1: case 2: case 3:
        int right = model.nextLetter();
        due("letter(" + right + ")", x.letter(right), model.letter(right));
        break;
      case 4: if (random.nextInt(3) == 0) { due("hush()", x.hush(), model.hush()); } break;
      case 5: due("meant(" + what + ")", x.meant(what), model.meant(what)); break;
      case 6: due("wrong()", x.wrong(), model.wrong()); break;
      default: due("got(" + what + ")", x.got(what), model.got(what)); break;
    }
  }

  private void callSeen() {
    int j = model.seen.isEmpty() || random.nextInt(3) == 0 ? somePart()
        : model.next(model.parts, model.seen.get(model.seen.size() - 1));
    int what = some(0, 1);
    switch (random.nextInt(6)) {
      case 0: case 1: case 2: due("saw(" + j + ")", x.saw(j), model.saw(j)); break;
      case 3: if (random.nextInt(3) == 0) { due("forget()", x.forget(), model.forget()); } break;
      default: due("from(" + what + ")", x.from(what), model.from(what)); break;
    }
  }

  private void callKinds() {
    int image = some(0, 1);
    int what = some(0, 3);
    switch (random.nextInt(6)) {
      case 0: case 1:
        int kind = some(0, 5);
        int k = someCrease();
        due("mark(" + kind + ", " + k + ")", x.mark(kind, k), model.mark(kind, k));
        break;
      case 2: due("keep(" + image + ")", x.keep(image), model.keep(image)); break;
      case 3: due("back(" + image + ")", x.back(image), model.back(image)); break;
      case 4: due("count(" + what + ")", x.count(what), model.count(what)); break;
      default: due("trace()", x.trace(), model.trace); break;
    }
  }

  /** A fraction in least terms. */
  private record Fraction(long upper, long lower) {
    static Fraction of(long upper, long lower) {
      long a = upper;
      long b = lower;
      while (b != 0) {
        long rest = a % b;
        a = b;
        b = rest;
      }
      return new Fraction(upper / a, lower / a);
    }

    Fraction plus(Fraction other) {
      return of(upper * other.lower + other.upper * lower, lower * other.lower);
    }

    Fraction half() {
      return of(upper, lower * 2);
    }
  }

  /** The document once more, with lists that are copied and nothing reckoned cleverly. */
  private static final class Model {
    private static final int BAD = -1, STATE = -2, FULL = -3, NONE = -9, NO = -1000000;
    private static final Fraction NIL = new Fraction(0, 1), ONE = new Fraction(1, 1);
    private static final Pattern TOKEN = Pattern.compile(" *([a-z]+|[0-9]+|;|[^ ]|$)", Pattern.DOTALL);

    private StringBuilder text = new StringBuilder();
    private int parts, part, off, hair;
    private List<Fraction> where, offness, hairs;
    private List<Integer> letters = new ArrayList<>();
    private List<Integer> seen = new ArrayList<>();
    private final Object[][] images = new Object[2][];
    private long trace = 0;

    private Matcher tokens;
    private String token;

    Model() {
      begin(5, 1, 0, 0);
    }

    private void begin(int itsParts, int itsPart, int itsOff, int itsHair) {
      parts = itsParts;
      part = itsPart;
      off = itsOff;
      hair = itsHair;
      where = new ArrayList<>(List.of(NIL, ONE, Fraction.of(part, parts)));
      offness = new ArrayList<>(List.of(NIL, NIL, ONE));
      hairs = new ArrayList<>(List.of(NIL, NIL, NIL));
      letters = new ArrayList<>();
      seen = new ArrayList<>();
      Arrays.fill(images, null);
    }

    int type(long v, int n) {
      if (n < 1 || n > 8) {
        return BAD;
      }
      if (text.length() + n > 200) {
        return FULL;
      }
      byte[] bytes = java.nio.ByteBuffer.allocate(8).putLong(v).array();
      for (int i = 8 - n; i < 8; i++) {
        text.append((char) (bytes[i] & 255));
      }
      return text.length();
    }

    int clear() {
      int had = text.length();
      text = new StringBuilder();
      return had;
    }

    private void next() {
      tokens.find();
      token = tokens.group(1);
    }

    /** The number that stands there, or -1: one that can't be. */
    private int number(int least, int most, int step, int not) {
      if (!token.matches("0|[1-9][0-9]?")) {
        return -1;
      }
      int it = Integer.parseInt(token);
      return it < least || it > most || (it - least) % step != 0 || it == not ? -1 : it;
    }

    int strip() {
      tokens = TOKEN.matcher(text);
      int[] told = {5, 1, 0, 0};
      boolean[] is = new boolean[4];
      List<int[]> folds = new ArrayList<>();
      int items = 0;
      for (next(); !token.isEmpty(); next()) {
        int word = Arrays.asList(WORDS).indexOf(token);
        boolean late = word >= 0 && word < 4 && (!folds.isEmpty() || is[word] || word == 0 && is[1]);
        if (word < 0 || late || word == 4 && folds.size() == 20) {
          return -10 - tokens.start(1);
        }
        next();
        int last = folds.size() + 2;
        int it = word == 0 ? number(3, 63, 2, -1) : word == 1 ? number(1, told[0] - 1, 1, -1)
            : number(0, word == 2 ? 99 : word == 3 ? 9 : last, 1, -1);
        if (it < 0) {
          return -10 - tokens.start(1);
        }
        next();
        if (word < 4) {
          told[word] = it;
          is[word] = true;
        } else {
          int other = number(0, last, 1, it);
          if (other < 0) {
            return -10 - tokens.start(1);
          }
          folds.add(new int[] {it, other});
          next();
        }
        if (!token.equals(";")) {
          return -10 - tokens.start(1);
        }
        items++;
      }
      begin(told[0], told[1], told[2], told[3]);
      for (int[] fold : folds) {
        fold(fold[0], fold[1]);
      }
      text = new StringBuilder();
      return items;
    }

    private boolean no(int it, int least, int most) {
      return it < least || it > most;
    }

    private int at(Fraction there) {
      for (int j = 0; j <= parts; j++) {
        if (Fraction.of(j, parts).equals(there)) {
          return j;
        }
      }
      return NONE;
    }

    long crease(int k, int what) {
      if (no(k, 0, where.size() - 1) || no(what, 0, 6)) {
        return BAD;
      }
      if (what == 6) {
        return at(where.get(k));
      }
      Fraction its = (what < 2 ? where : what < 4 ? offness : hairs).get(k);
      return what % 2 == 0 ? its.upper() : its.lower();
    }

    int told(int what) {
      return no(what, 0, 3) ? BAD : new int[] {parts, part, off, hair}[what];
    }

    int fold(int i, int j) {
      if (no(i, 0, where.size() - 1) || no(j, 0, where.size() - 1) || i == j) {
        return BAD;
      }
      if (where.size() == 23) {
        return FULL;
      }
      where.add(where.get(i).plus(where.get(j)).half());
      offness.add(offness.get(i).plus(offness.get(j)).half());
      hairs.add(hairs.get(i).plus(hairs.get(j)).half().plus(ONE));
      return where.size() - 1;
    }

    int next(int itsParts, int j) {
      return j % 2 == 0 ? j / 2 : (j + itsParts) / 2;
    }

    int rule() {
      int j = at(where.get(where.size() - 1));
      if (no(j, 1, parts - 1)) {
        return STATE;
      }
      return fold(j % 2, where.size() - 1) == FULL ? FULL : j % 2;
    }

    int undo() {
      int last = where.size() - 1;
      if (last < 3) {
        return STATE;
      }
      where.remove(last);
      offness.remove(last);
      hairs.remove(last);
      return last;
    }

    int says(int j) {
      return no(j, 1, parts - 1) ? BAD : j % 2;
    }

    int round(int j) {
      if (no(j, 1, parts - 1)) {
        return BAD;
      }
      int folds = 1;
      for (int at = next(parts, j); at != j; at = next(parts, at)) {
        folds++;
      }
      return folds;
    }

    int near(int t) {
      if (no(t, 0, 99999)) {
        return BAD;
      }
      Fraction its = Fraction.of(off * 1000L, 1);
      for (int folds = 0; folds <= 40; folds++) {
        if (its.upper() <= t * its.lower()) {
          return folds;
        }
        its = its.half();
      }
      return NONE;
    }

    int wasted(int what) {
      if (no(what, 0, 1)) {
        return BAD;
      }
      TreeSet<Integer> missing = new TreeSet<>();
      for (int j = 1; j < parts; j++) {
        missing.add(j);
      }
      int wasted = 0;
      for (Fraction its : where) {
        wasted += at(its) == NONE ? 1 : 0;
        missing.remove(at(its));
      }
      return what == 0 ? wasted : missing.size();
    }

    /** The parts that come from a guess by so many folds. */
    private List<Integer> come(int guess, int folds) {
      List<Integer> come = new ArrayList<>(List.of(guess));
      for (int i = 0; i < folds; i++) {
        come.add(next(parts, come.get(i)));
      }
      return come;
    }

    int fewest(int j) {
      if (no(j, 1, parts - 1)) {
        return BAD;
      }
      int folds = come(part, 100).indexOf(j);
      return folds < 0 ? NONE : folds;
    }

    int comes(int what) {
      if (no(what, 0, 1)) {
        return BAD;
      }
      TreeSet<TreeSet<Integer>> rings = new TreeSet<>((one, other) -> one.first() - other.first());
      for (int j = 1; j < parts; j++) {
        rings.add(new TreeSet<>(come(j, 100)));
      }
      return what == 0 ? new TreeSet<>(come(part, 100)).size() : rings.size();
    }

    int letter(int its) {
      if (no(its, 0, 1)) {
        return BAD;
      }
      if (letters.size() == 12) {
        return FULL;
      }
      letters.add(its);
      return letters.size();
    }

    /** What the rule would say behind the letters, to ask for long rows that are right. */
    int nextLetter() {
      return come(part, letters.size()).get(letters.size()) % 2;
    }

    int hush() {
      int had = letters.size();
      letters.clear();
      return had;
    }

    private int wrong(int itsParts, int from) {
      int at = from;
      for (int i = 0; i < letters.size(); i++) {
        if (letters.get(i) != at % 2) {
          return i;
        }
        at = next(itsParts, at);
      }
      return NONE;
    }

    int meant(int what) {
      if (no(what, 0, 2)) {
        return BAD;
      }
      List<int[]> pairs = new ArrayList<>();
      for (int itsParts = 3; itsParts < 64; itsParts += 2) {
        for (int from = 1; from < itsParts; from++) {
          if (wrong(itsParts, from) == NONE) {
            pairs.add(new int[] {itsParts, from});
          }
        }
      }
      return what == 0 ? pairs.size() : pairs.isEmpty() ? NONE : pairs.get(0)[what - 1];
    }

    int wrong() {
      return wrong(parts, part);
    }

    long got(int what) {
      if (no(what, 0, 1)) {
        return BAD;
      }
      Fraction at = Fraction.of(part, parts);
      for (int its : letters) {
        at = at.half().plus(Fraction.of(its, 2));
      }
      return what == 0 ? at.upper() : at.lower();
    }

    int saw(int j) {
      if (no(j, 1, parts - 1)) {
        return BAD;
      }
      if (seen.size() == 8) {
        return FULL;
      }
      seen.add(j);
      return seen.size();
    }

    int forget() {
      int had = seen.size();
      seen.clear();
      return had;
    }

    int from(int what) {
      if (no(what, 0, 1)) {
        return BAD;
      }
      TreeSet<Integer> set = new TreeSet<>(seen);
      List<Integer> guesses = new ArrayList<>();
      for (int guess = 1; guess < parts; guess++) {
        for (int folds = 0; folds <= 20; folds++) {
          if (set.equals(new TreeSet<>(come(guess, folds)))) {
            guesses.add(guess);
          }
        }
      }
      return what == 0 ? guesses.size() : guesses.isEmpty() ? NONE : guesses.get(0);
    }

    int mark(int kind, int k) {
      if (no(kind, 0, 5) || no(k, 0, where.size() - 1)) {
        return NO;
      }
      int pinch = k + Math.max(0, at(where.get(k)));
      int end = k - where.size();
      trace += new long[] {1, 11, 101, 1011, 10101, 100001}[kind];
      return new int[] {k, pinch, end, pinch * 2, end + letters.size(), k + parts}[kind];
    }

    int keep(int image) {
      if (no(image, 0, 1)) {
        return BAD;
      }
      images[image] = new Object[] {new ArrayList<>(where), new ArrayList<>(offness), new ArrayList<>(hairs),
          new ArrayList<>(letters), new ArrayList<>(seen)};
      return where.size();
    }

    @SuppressWarnings("unchecked")
    int back(int image) {
      if (no(image, 0, 1)) {
        return BAD;
      }
      Object[] its = images[image];
      if (its == null) {
        return STATE;
      }
      where = new ArrayList<>((List<Fraction>) its[0]);
      offness = new ArrayList<>((List<Fraction>) its[1]);
      hairs = new ArrayList<>((List<Fraction>) its[2]);
      letters = new ArrayList<>((List<Integer>) its[3]);
      seen = new ArrayList<>((List<Integer>) its[4]);
      return where.size();
    }

    int count(int what) {
      return no(what, 0, 3) ? BAD : new int[] {where.size(), letters.size(), seen.size(), text.length()}[what];
    }
  }
}
