import java.util.function.LongSupplier;

/** What the tests by hand share: how they ask, feed texts and images, and lay two objects side by side. */
abstract class Dues {
  static final int NONE = PegCoats.NONE;
  static final long NOTHING = PegCoats.NOTHING;
  /** Numbers that no coat, man, place or count has. */
  static final int[] FAR = {Integer.MIN_VALUE, -1000000007, -256, 256, 1000000007, Integer.MAX_VALUE};

  static final String LIVERY = "coat red size 10 pay 5;coat blue size 12 pay 7;coat gray size 20 pay 1;"
      + "man al size 10 age 20;man bo size 12 age 30;man cy size 11 age 64;wears al of blue;wears bo of red;fire 50;";
  static final String HEIR = "coat high size 10 pay 50;coat low size 10 pay 1;man old size 10 age 64;man new size 10 age 20;"
      + "wears old of high;leaves age>65;";
  /** As much as there may be: coats of the sizes 11 to 18 and the pays 1 to 8, men of the sizes 11 to 17 and the ages 1 to 7. */
  static final String FULL = rows("coat ", "abcdefgh", " pay ") + rows("man ", "klmnopq", " age ");

  static PegCoats x = new PegCoats();
  private static int asked = 0;
  private static int wrong = 0;
  private static int promise = 0;
  private static String sentence = "";

  private static String rows(String kind, String names, String last) {
    StringBuilder s = new StringBuilder();
    for (int k = 0; k < names.length(); k++) {
      s.append(kind).append(names.charAt(k)).append(" size ").append(11 + k).append(last).append(1 + k).append(';');
    }
    return s.toString();
  }

  // ---- asking

  /** What the document says, and under which promise: told with every answer that is not due from here on. */
  static void says(int number, String words) {
    promise = number;
    sentence = ", \"" + words + "\"";
  }

  static void due(String call, long got, long want) {
    asked++;
    if (got != want) {
      wrong++;
      System.out.println("promise " + promise + sentence + ": " + call + " answered " + got + ", due is " + want);
    }
  }

  static void due(String call, boolean got, boolean want) {
    due(call, got ? 1L : 0L, want ? 1L : 0L);
  }

  static void due(int number, String call, long got, long want) {
    promise = number;
    sentence = "";
    due(call, got, want);
  }

  static void due(int number, String call, boolean got, boolean want) {
    due(number, call, got ? 1L : 0L, want ? 1L : 0L);
  }

  /** The last thing that a test does. */
  static void finish() {
    System.out.println(wrong == 0 ? asked + " answers are as due" : wrong + " answers are not as due");
    if (wrong != 0) System.exit(1);
  }

  // ---- feeding

  /** The tape is these bytes. */
  static void feed(int... bytes) {
    x.end(0);
    for (int k = 0; k < bytes.length; k += 20) {
      int[] five = new int[5];
      for (int i = 0; i < 20; i++) five[i / 4] = five[i / 4] << 8 | (k + i < bytes.length ? bytes[k + i] & 255 : 0);
      x.feed(five[0], five[1], five[2], five[3], five[4]);
    }
    x.end(bytes.length);
  }

  static void feedText(String text) {
    feed(text.chars().toArray());
  }

  static int works(String text) {
    feedText(text);
    return x.works();
  }

  /** A new object with a works. */
  static void fresh(String text) {
    x = new PegCoats();
    if (works(text) == NONE) due("works(), fault " + x.fault(0) + " at " + x.fault(1) + " of " + text, NONE, 0);
  }

  static int see(int... bytes) {
    feed(bytes);
    return x.see();
  }

  static String times(int n, String text) {
    return text.repeat(n);
  }

  // ---- images

  static int check(int... bytes) {
    int c = 233;
    for (int b : bytes) c = (5 * c + b) % 251;
    return c;
  }

  static void feedImage(int... bytes) {
    int[] whole = java.util.Arrays.copyOf(bytes, bytes.length + 1);
    whole[bytes.length] = check(bytes);
    feed(whole);
  }

  /** A row of bytes with the last one made good, read by on(). */
  static boolean on(int... bytes) {
    feedImage(bytes);
    return x.on();
  }

  /** The image of now without its last byte. */
  static int[] picture() {
    int[] bytes = new int[x.image() - 1];
    for (int k = 0; k < bytes.length; k++) bytes[k] = x.octet(k);
    return bytes;
  }

  static int coatAt(int coat) {
    return 2 + 2 * coat;
  }

  static int manAt(int man) {
    return 2 + 2 * x.has(0) + 6 * man;
  }

  /** Goes on from now with another byte in the image: whether that can be. */
  static boolean with(int at, int value) {
    int[] bytes = picture();
    bytes[at] = value;
    return on(bytes);
  }

  /** Goes on from now with another number of two bytes in the image: whether that can be. */
  static boolean withTwo(int at, int value) {
    int[] bytes = picture();
    bytes[at] = value >> 8;
    bytes[at + 1] = value & 255;
    return on(bytes);
  }

  static void inYear(int year) {
    if (!withTwo(0, year)) due("on() in the year " + year, 0, 1);
  }

  // ---- side by side

  /**
   * A works in which each thing is there once: red is burnt, blue on bo, gray on its peg; al and cy have none,
   * di is gone; five acts can be undone, two years are kept, two rows are seen, the tape has twenty bytes.
   */
  static void busy() {
    fresh(LIVERY + "man di size 50 age 90;leaves age>90;");
    x.chance(1);
    x.pass(0, 1);
    x.hang(0);
    x.years(1);
    x.hang(2);
    see(0, 0, 255, 1, 1, 1);
    x.image();
    x.feed(0x66697265, 0x20313b3f, 0, 0, 0);
  }

  /** A call that is refused: two objects come to stand alike, one is called; its count alone is one more. */
  static void refused(int kind, String call, Runnable ahead, LongSupplier answer, long want) {
    refused(kind, call, false, ahead, answer, want);
  }

  /** The same of a call by which the tape goes. */
  static void refusedTape(int kind, String call, Runnable ahead, LongSupplier answer, long want) {
    refused(kind, call, true, ahead, answer, want);
  }

  private static void refused(int kind, String call, boolean tapeGoes, Runnable ahead, LongSupplier answer, long want) {
    ahead.run();
    PegCoats other = x;
    ahead.run();
    due(call, answer.getAsLong(), want);
    for (int k = 0; k < 6; k++) due(call + ", then status(" + k + ")", x.status(k), other.status(k) + (k == kind ? 1 : 0));
    if (tapeGoes) other.end(0);
    alike(call, other);
    for (int k = 0; k < 2 && kind != 1; k++) due(call + ", then fault(" + k + ")", x.fault(k), other.fault(k));
    due(call + ", then feed()", x.feed(0, 0, 0, 0, 0), other.feed(0, 0, 0, 0, 0));
    due(call + ", then undo()", x.undo(), other.undo());
    standsAlike(call + ", then undo()", other);
  }

  /** All that the two tell but for the tape, the refusals and the faults. */
  static void alike(String call, PegCoats other) {
    int[] counts = {other.has(0), other.has(1)};
    standsAlike(call, other);
    for (int kind = 0; kind < 2; kind++) {
      for (int which = 0; which < counts[kind]; which++) {
        for (int k = 0; k < 6; k++) {
          due(call + ", then letter(" + kind + ", " + which + ", " + k + ")", x.letter(kind, which, k), other.letter(kind, which, k));
        }
      }
    }
    for (int m = 0; m < counts[1]; m++) {
      due(call + ", then had(" + m + ")", x.had(m), other.had(m));
      for (int c = 0; c < counts[0]; c++) due(call + ", then warms(" + m + ", " + c + ")", x.warms(m, c), other.warms(m, c));
    }
    int octet = 0;
    for (int k = 0; octet != NONE; k++) {
      octet = other.octet(k);
      due(call + ", then octet(" + k + ")", x.octet(k), octet);
    }
  }

  /** How the two stand: what they have, each coat, each man, each year that is kept. */
  static void standsAlike(String call, PegCoats other) {
    int[] counts = {other.has(0), other.has(1), other.has(7)};
    for (int k = 0; k <= 10; k++) due(call + ", then has(" + k + ")", x.has(k), other.has(k));
    for (int c = 0; c < counts[0]; c++) {
      for (int k = 0; k < 5; k++) due(call + ", then coat(" + c + ", " + k + ")", x.coat(c, k), other.coat(c, k));
    }
    for (int m = 0; m < counts[1]; m++) {
      for (int k = 0; k < 5; k++) due(call + ", then man(" + m + ", " + k + ")", x.man(m, k), other.man(m, k));
    }
    for (int e = 0; e < counts[2]; e++) {
      for (int k = 0; k < 3; k++) due(call + ", then kept(" + e + ", " + k + ")", x.kept(e, k), other.kept(e, k));
    }
  }
}
