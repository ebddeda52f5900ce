/** The tape and the text, sentence by sentence: promises 2 to 5, part I of the terms. */
public final class TextEdgesTest extends Dues {
  private static final String[] OWN_WORDS = {"coat", "size", "pay", "man", "age", "wears", "of", "warms", "grows", "leaves", "fire",
      "year", "lining", "purse", "coated", "if", "or", "and", "not", "all", "min", "max"};
  /** A coat a, a man m; 39 bytes. */
  private static final String AM = "coat a size 1 pay 1;man m size 1 age 1;";

  public static void main(String[] args) {
    promise2Feed();
    promise3End();
    promise4Statements();
    promise4Refused();
    promise4AsAtFirst();
    promise5Fault();
    promise5Coats();
    promise5Men();
    promise5Fire();
    promise5Wears();
    promise5Kinds();
    promise5Statements();
    promise5Names();
    promise5OwnWords();
    promise5Numbers();
    promise5Blanks();
    promise5SideBySide();
    promise5EndsTooSoon();
    promise5NoWorksGoesOn();
    promise5Values();
    promise5Open();
    promise5OpenAtOnce();
    promise5First();
    finish();
  }

  // ---- the tape

  private static void promise2Feed() {
    says(2, "of each number the highest first");
    for (int at = 0; at < 20; at++) {
      int[] five = {0x20202020, 0x20202020, 0x20202020, 0x20202020, 0x20202020};
      five[at / 4] ^= 0xdf << 8 * (3 - at % 4); // a blank becomes 255
      x = new PegCoats();
      x.feed(five[0], five[1], five[2], five[3], five[4]);
      x.works();
      due("fault(1) with 255 at " + at, x.fault(1), at);
    }
    says(2, "Twenty bytes come behind those on the tape: how many there are");
    x = new PegCoats();
    due("feed()", x.feed(0, 0, 0, 0, 0), 20);
    due("feed()", x.feed(0, 0, 0, 0, 0), 40);
    x.end(7);
    due("feed() behind 7", x.feed(0, 0, 0, 0, 0), 27);
    x.works();
    due("feed() when the tape is gone", x.feed(-1, -1, -1, -1, -1), 20);
    says(2, "NONE, refused (0), if there would be more than 1600");
    refused(0, "feed() behind 1600", () -> tape(1600), () -> x.feed(-1, -1, -1, -1, -1), NONE);
    refused(0, "feed() behind 1581", () -> tape(1581), () -> x.feed(-1, -1, -1, -1, -1), NONE);
    tape(1580);
    due("feed() behind 1580", x.feed(0, 0, 0, 0, 0), 1600);
    due("status(0)", x.status(0), 0);
    tape(1600);
    x.feed(0, 0, 0, 0, 0);
    x.works();
    due("works() of 1600 bytes, the last one wrong, fault(1)", x.fault(1), 1599);
    fresh("fire 1;" + times(1592, " ") + " ");
    due("works() of 1600 bytes, status(1)", x.status(1), 0);
  }

  /** A busy object whose tape has n bytes, blanks with a wrong one at the end. */
  private static void tape(int n) {
    busy();
    feedText(times(n - 1, " ") + "?");
  }

  private static void promise3End() {
    says(3, "The tape has its first n bytes alone: true");
    x = new PegCoats();
    due("end(0) of nothing", x.end(0), true);
    feedText("fire 1;fire 2;fire 3;fire 4;");
    due("end(28), all", x.end(28), true);
    due("end(27)", x.end(27), true);
    due("end(14)", x.end(14), true);
    due("works()", x.works(), 2);
    due("status(0)", x.status(0), 0);
    x.feed(0x66697265, 0x20313b3f, 0x3f3f3f3f, 0x3f3f3f3f, 0x3f3f3f3f);
    due("end(7)", x.end(7), true);
    due("feed() behind it", x.feed(0x66697265, 0x20323b20, 0x20202020, 0x20202020, 0x20202020), 27);
    due("works()", x.works(), 2);
    says(3, "false, refused (0), if it has not so many, or n is below 0");
    refused(0, "end(21) of 20", Dues::busy, () -> x.end(21) ? 1 : 0, 0);
    refused(0, "end(-1)", Dues::busy, () -> x.end(-1) ? 1 : 0, 0);
    refused(0, "end(1) of none", () -> fresh(LIVERY), () -> x.end(1) ? 1 : 0, 0);
    refused(0, "end(1601)", () -> tape(1600), () -> x.end(1601) ? 1 : 0, 0);
    for (int n : FAR) refused(0, "end(" + n + ")", Dues::busy, () -> x.end(n) ? 1 : 0, 0);
    x = new PegCoats();
    feedText("fire 1;?");
    x.end(9);
    x.end(-1);
    x.works();
    due("the bytes stay, fault(1)", x.fault(1), 7);
  }

  // ---- works() as a whole

  private static void promise4Statements() {
    says(4, "how many STATEMENTS (0 without)");
    x = new PegCoats();
    due("works() of nothing", x.works(), 0);
    due("works() of blanks", works("\n \n"), 0);
    due("works() of one", works("fire 1;"), 1);
    due("works() of 79", works(times(79, "fire 1;")), 79);
    due("works() of 80", works(times(80, "fire 1;") + " \n"), 80);
    due("works() of all there may be", works(FULL + "wears k of a;warms 1;grows 1;leaves all;fire 1;fire 2;"), 21);
    due("status(1)", x.status(1), 0);
    says(4, "The tape (it goes)");
    due("feed()", x.feed(0, 0, 0, 0, 0), 20);
    due("works() with a fault", x.works(), NONE);
    due("feed()", x.feed(0, 0, 0, 0, 0), 20);
  }

  private static void promise4Refused() {
    says(4, "NONE, refused (1), with a FAULT (all stays)");
    String[] texts = {"fire 1;?", "coat a size 1 pay 1;coat a", "coat red size 1 pay 1;wears al of red;", "fire 101;",
        "grows ((((((((1", "warms 1;warms 2;"};
    for (int k = 0; k < texts.length; k++) {
      String text = texts[k];
      refusedTape(1, "works() of " + text, Dues::busy, () -> works(text), NONE);
      due("fault(0) of " + text, x.fault(0), k + 1);
    }
  }

  private static void promise4AsAtFirst() {
    says(4, "Without one all is as at first, nothing is KEPT or SEEN, no ACT can be undone; the seed stays");
    for (String text : new String[] {LIVERY, HEIR, FULL, ""}) {
      fresh(text);
      x.seed(4711);
      PegCoats other = x;
      busy();
      x.seed(4711);
      due("works()", works(text) >= 0, true);
      standsAlike("works() anew", other);
      for (int m = 0; m < other.has(1); m++) due("had(" + m + ")", x.had(m), other.had(m));
      due("undo()", x.undo(), false);
      due("kept(0, 0)", x.kept(0, 0), NONE);
      due("has(10)", x.has(10), 4711);
      due("fault(0)", x.fault(0), 0);
      due("fault(1)", x.fault(1), NONE);
    }
    says(4, "The tape is THE WORKS: nothing of the one ahead of it is left");
    String rules = "coat a size 10 pay 1;man m size 10 age 1;warms 7;grows 20;leaves age=3;";
    String plain = "coat a size 10 pay 1;man m size 10 age 1;";
    fresh(rules);
    for (int k = 0; k < 3; k++) {
      due("warms(0, 0) by the rules", x.warms(0, 0), 7);
      due("goes(0) by the rules", x.goes(0), 1);
      works("1");
      due("works() with a fault at a number, place", x.fault(1), 0);
      due("works() without rules", works(plain), 2);
      due("warms(0, 0)", x.warms(0, 0), 10);
      due("goes(0)", x.goes(0), NONE);
      x.years(1);
      due("man(0, 0)", x.man(0, 0), 10);
      works("x");
      due("works() with a fault at a word, place", x.fault(1), 0);
      due("works() with rules again", works(rules), 5);
      x.years(1);
      due("man(0, 0) by the rules", x.man(0, 0), 20);
      x.undo();
    }
    says(4, "It is YEAR 0, purses are empty; all MEN are there; LINING is 1 at first if it is on one, else 0; none is BURNT at first");
    fresh(FULL + "wears q of a;wears k of h;");
    due("has(2)", x.has(2), 0);
    due("has(3)", x.has(3), 7);
    due("has(6)", x.has(6), 0);
    for (int c = 0; c < 8; c++) {
      due("coat(" + c + ", 2)", x.coat(c, 2), c == 0 || c == 7 ? 1 : 0);
      due("coat(" + c + ", 3)", x.coat(c, 3), 0);
      due("coat(" + c + ", 4)", x.coat(c, 4), c == 0 ? 6 : c == 7 ? 0 : NONE);
    }
    for (int m = 0; m < 7; m++) {
      due("man(" + m + ", 2)", x.man(m, 2), m == 0 ? 7 : m == 6 ? 0 : NONE);
      due("man(" + m + ", 3)", x.man(m, 3), 0);
      due("man(" + m + ", 4)", x.man(m, 4), 1);
    }
  }

  // ---- faults

  /** A text without a fault. */
  private static void good(String text) {
    x = new PegCoats();
    due("works() of " + text, works(text) >= 0, true);
    due("fault(0) of " + text, x.fault(0), 0);
    due("fault(1) of " + text, x.fault(1), NONE);
    due("status(1) of " + text, x.status(1), 0);
  }

  private static void bad(int kind, int place, String text) {
    x = new PegCoats();
    due("works() of " + text, works(text), NONE);
    due("fault(0) of " + text, x.fault(0), kind);
    due("fault(1) of " + text, x.fault(1), place);
    due("status(1) of " + text, x.status(1), 1);
    due("has(0) of " + text, x.has(0), 0);
    due("has(1) of " + text, x.has(1), 0);
  }

  /** A text with a fault, its place marked by ^ (which is not in the text). */
  private static void bad(int kind, String marked) {
    bad(kind, marked.indexOf('^'), marked.replace("^", ""));
  }

  private static void promise5Fault() {
    says(5, "Of the latest works(): its FAULT (what 0; 0 without, and ahead of any), its place (1; NONE without). NONE for another what");
    x = new PegCoats();
    due("fault(0) ahead", x.fault(0), 0);
    due("fault(1) ahead", x.fault(1), NONE);
    works("fire 101;");
    due("fault(0)", x.fault(0), 4);
    due("fault(1)", x.fault(1), 5);
    works("?");
    due("fault(0) of the latest", x.fault(0), 1);
    due("fault(1) of the latest", x.fault(1), 0);
    for (int what : new int[] {-1, 2, 3}) due("fault(" + what + ")", x.fault(what), NONE);
    for (int what : FAR) due("fault(" + what + ")", x.fault(what), NONE);
    works("fire 1;");
    due("fault(0) without", x.fault(0), 0);
    due("fault(1) without", x.fault(1), NONE);
    for (int what : new int[] {-1, 2}) due("fault(" + what + ")", x.fault(what), NONE);
  }

  private static void coatIs(String size, String pay, int sizeDue, int payDue) {
    good("coat a size " + size + " pay " + pay + ";");
    due("coat(0, 0)", x.coat(0, 0), sizeDue);
    due("coat(0, 1)", x.coat(0, 1), payDue);
  }

  private static void promise5Coats() {
    says(5, "coat NAME size N pay N (1 .. 99; 0 .. 99; 8 COATS)");
    coatIs("1", "0", 1, 0);
    coatIs("0001", "0000", 1, 0);
    coatIs("99", "99", 99, 99);
    coatIs("0099", "0099", 99, 99);
    bad(4, "coat a size ^0 pay 1;");
    bad(4, "coat a size ^0000 pay 1;");
    bad(4, "coat a size ^100 pay 1;");
    bad(4, "coat a size ^0100 pay 1;");
    bad(4, "coat a size ^9999 pay 1;");
    bad(4, "coat a size 1 pay ^100;");
    bad(4, "coat a size 1 pay ^9999;");
    bad(1, "coat a size ^-1 pay 1;");
    bad(1, "coat a size 1 pay ^-1;");
    StringBuilder s = new StringBuilder();
    for (char c = 'a'; c <= 'h'; c++) s.append("coat ").append(c).append(" size 1 pay 1;");
    good(s.toString());
    due("has(0)", x.has(0), 8);
    bad(6, s + "^coat i size 1 pay 1;");
    bad(6, s + " ^coat a size 0 pay 100");
    bad(6, s + AM.substring(20) + "fire 1;^coat");
  }

  private static void manIs(String size, String age, int sizeDue, int ageDue) {
    good("man m size " + size + " age " + age + ";");
    due("man(0, 0)", x.man(0, 0), sizeDue);
    due("man(0, 1)", x.man(0, 1), ageDue);
  }

  private static void promise5Men() {
    says(5, "man NAME size N age N (1 .. 99; 0 .. 99; 7 MEN)");
    manIs("1", "0", 1, 0);
    manIs("0001", "0000", 1, 0);
    manIs("99", "99", 99, 99);
    manIs("099", "0099", 99, 99);
    bad(4, "man m size ^0 age 1;");
    bad(4, "man m size ^00 age 1;");
    bad(4, "man m size ^100 age 1;");
    bad(4, "man m size ^9999 age 1;");
    bad(4, "man m size 1 age ^100;");
    bad(4, "man m size 1 age ^0100;");
    bad(4, "man m size 1 age ^9999;");
    bad(1, "man m size ^-1 age 1;");
    bad(1, "man m size 1 age ^-1;");
    StringBuilder s = new StringBuilder();
    for (char c = 'k'; c <= 'q'; c++) s.append("man ").append(c).append(" size 1 age 1;");
    good(s.toString());
    due("has(1)", x.has(1), 7);
    bad(6, s + "^man r size 1 age 1;");
    bad(6, s + "\n^man k size 0 age 100");
    bad(6, s + AM.substring(0, 20) + "^man");
  }

  private static void promise5Fire() {
    says(5, "fire N (0 .. 100; the last one counts, 0 without)");
    good("fire 0;");
    good("fire 100;");
    good("fire 0100;");
    bad(4, "fire ^101;");
    bad(4, "fire ^0101;");
    bad(4, "fire ^9999;");
    bad(1, "fire ^-1;");
    // all draws are below 100, none is below 0
    String ofTwo = "coat a size 1 pay 1;coat b size 1 pay 1;";
    String[] fires = {"", "fire 0;", "fire 100;", "fire 0;fire 100;", "fire 100;fire 0;", "fire 100;fire 0;fire 100;"};
    int[] burnt = {0, 0, 1, 1, 0, 1};
    for (int k = 0; k < fires.length; k++) {
      fresh(ofTwo + fires[k]);
      due("chance(1) by " + fires[k], x.chance(1), burnt[k]);
    }
    fresh(ofTwo + "fire 100;");
    works(ofTwo);
    due("chance(1) without, behind a works with it", x.chance(1), 0);
    works(ofTwo + "fire 100;fire 101;");
    due("chance(1) behind a fault", x.chance(1), 0);
    works(ofTwo);
    due("chance(1) without, behind a fault", x.chance(1), 0);
  }

  private static void promise5Wears() {
    says(5, "wears NAME of NAME (a MAN who has none; a COAT that nobody has); 3 a NAME that is none of what must be there, or can't be");
    String two = AM + "coat b size 1 pay 1;man n size 1 age 1;";
    good(two + "wears m of a;wears n of b;");
    good(two + "wears m of b;wears n of a;");
    bad(3, two + "wears ^x of a;");
    bad(3, two + "wears ^a of a;");
    bad(3, two + "wears ^x of y;");
    bad(3, two + "wears m of ^x;");
    bad(3, two + "wears m of ^m;");
    bad(3, two + "wears m of ^n;");
    bad(3, two + "wears m of a;wears ^m of b;");
    bad(3, two + "wears m of a;wears ^m of a;");
    bad(3, two + "wears m of a;wears n of ^a;");
    bad(3, two + "wears ^mm of a;");
    bad(3, two + "wears m of ^aa;");
    says(5, "NAMES: told ahead of where they are asked");
    bad(3, "coat a size 1 pay 1;wears ^m of a;man m size 1 age 1;");
    bad(3, "man m size 1 age 1;wears m of ^a;coat a size 1 pay 1;");
    bad(3, "wears ^m");
    StringBuilder s = new StringBuilder(FULL);
    for (int k = 0; k < 7; k++) s.append("wears ").append((char) ('k' + k)).append(" of ").append((char) ('h' - k)).append(';');
    good(s.toString());
    due("has(4), all have one", x.has(4), 7);
    bad(3, s + "wears ^k of a;");
  }

  private static void promise5Kinds() {
    says(5, "6 one too many of a kind of STATEMENT (a second warms, grows, leaves, too)");
    good("warms 1;grows 1;leaves all;");
    bad(6, "warms 1;grows 1;leaves all;^warms 2;");
    bad(6, "warms 1;grows 1;leaves all;^grows 2;");
    bad(6, "warms 1;grows 1;leaves all;^leaves all;");
    bad(6, "warms 1;^warms");
    bad(6, "grows 1;\n ^grows ?");
    bad(6, "leaves all; ^leaves abcdefg");
  }

  private static void promise5Statements() {
    says(5, "6 the 81st STATEMENT (whatever it is), at its first byte");
    String most = times(80, "fire 1;");
    good(most);
    good(most + " \n ");
    String[] more = {"fire 1;", "fire", "fire 101;", "coat a size 1 pay 1;", "man m size 1 age 1;", "wears m of a;", "warms 1;", "grows 1;",
        "leaves all;", "abcdef", "abcdefg;", "12345", "1", "?", ";"};
    for (String s : more) {
      bad(6, most + "^" + s);
      bad(6, most + "\n  ^" + s);
    }
    bad(6, times(79, "fire 1;") + "warms 1;^warms 1;");
    bad(6, times(78, "fire 1;") + "warms 1;^warms 1;");
    bad(1, times(79, "fire 1;") + "^?");
    bad(1, times(79, "fire 1;") + "fire 1^");
    bad(1, times(79, "fire 1;") + "fire 1 ^fire 1;");
    bad(4, times(79, "fire 1;") + "fire ^101;");
  }

  private static void promise5Names() {
    says(5, "NAMES: 1 to 6 letters; a 7th letter at itself, whatever may stand there");
    good("coat z size 1 pay 1;man y size 1 age 1;");
    good("coat abcdef size 1 pay 1;man zyxwvu size 1 age 1;wears zyxwvu of abcdef;");
    bad(1, "coat abcdef^g size 1 pay 1;");
    bad(1, "coat abcdef^ghijklm size 1 pay 1;");
    bad(1, "man abcdef^g size 1 age 1;");
    bad(1, "wears abcdef^g of a;");
    bad(1, AM + "wears m of abcdef^g;");
    bad(1, "abcdef^g");
    bad(1, "warmsw^a 1;");
    bad(1, "leaves^s all;");
    bad(1, "fire abcdef^g;");
    bad(1, "grows coated^s;");
    bad(1, "grows 1 abcdef^g;");
    bad(1, "coat a abcdef^g 1 pay 1;");
    bad(1, "fire 1;abcdef^g");
    bad(1, "coat a size 1 pay 1;coat aaaaaa^a size 1 pay 1;");
    says(5, "NAMES: unlike ones (of both sorts); 2 a NAME that is there already, at its first byte");
    bad(2, AM + "coat ^a size 1 pay 1;");
    bad(2, AM + "coat ^m size 1 pay 1;");
    bad(2, AM + "man ^a size 1 age 1;");
    bad(2, AM + "man ^m size 1 age 1;");
    bad(2, "coat abcdef size 1 pay 1;man \n ^abcdef");
    bad(2, "coat abcdef size 1 pay 1;man ^abcdef?");
    good("coat a size 1 pay 1;man aa size 1 age 1;coat aaa size 1 pay 1;man aaaa size 1 age 1;coat aaaaa size 1 pay 1;man aaaaaa size 1 age 1;");
    good("coat ab size 1 pay 1;coat ba size 1 pay 1;man b size 1 age 1;man abz size 1 age 1;");
  }

  private static void promise5OwnWords() {
    says(5, "1 an OWN WORD where a NAME must be");
    for (String word : OWN_WORDS) {
      bad(1, "coat ^" + word + " size 1 pay 1;");
      bad(1, "man ^" + word + " size 1 age 1;");
      bad(1, AM + "wears ^" + word + " of a;");
      bad(1, AM + "wears m of ^" + word + ";");
    }
    says(5, "OWN WORDS, which no NAME is");
    String[] names = {"coa", "coats", "sizes", "pa", "pays", "men", "ages", "wear", "off", "warm", "grow", "leave", "fires", "years", "linin",
        "purses", "coate", "i", "ifs", "o", "ors", "an", "ands", "no", "nots", "al", "alls", "mi", "mins", "maxi"};
    for (String name : names) good("coat " + name + " size 1 pay 1;man m size 1 age 1;wears m of " + name + ";");
  }

  private static void promise5Numbers() {
    says(5, "NUMBERS: 1 to 4 digits; a 5th digit at itself, whatever may stand there");
    good("grows 0;");
    good("grows 9999;");
    good("grows 0000;");
    bad(1, "grows 0000^0;");
    bad(1, "grows 1234^5678;");
    bad(1, "coat a size 0000^1 pay 1;");
    bad(1, "coat a size 9999^9 pay 1;");
    bad(1, "coat a size 1 pay 0000^0;");
    bad(1, "fire 0010^0;");
    bad(1, "1234^5");
    bad(1, "coat 1234^5");
    bad(1, "coat a 1234^5");
    bad(1, "fire 1;1234^5");
    says(5, "4 a NUMBER that can't be, at its first byte");
    bad(4, "fire \n ^101 ?");
    bad(4, "fire ^101");
  }

  /** What comes of a text with each byte there is in one place: 0 it is good, else 1 more than the fault's place. */
  private interface Outcome { int of(int b); }

  private static void everyByte(String ahead, String behind, Outcome outcome) {
    for (int b = 0; b < 256; b++) {
      String text = ahead + (char) b + behind;
      x = new PegCoats();
      works(text);
      int place = outcome.of(b) - 1;
      due("fault(0) of " + ahead + " byte " + b + " " + behind, x.fault(0), place == NONE ? 0 : 1);
      due("fault(1) of " + ahead + " byte " + b + " " + behind, x.fault(1), place);
    }
  }

  private static boolean isBlank(int b) { return b == 10 || b == 32; }
  private static boolean isLetter(int b) { return b >= 'a' && b <= 'z'; }
  private static boolean isDigit(int b) { return b >= '0' && b <= '9'; }

  private static void promise5Blanks() {
    says(5, "Blanks (10, 32) are where one likes; 1 the first byte with which no WORKS goes on");
    everyByte("", "", b -> isBlank(b) ? 0 : 1);
    everyByte("fire", "1;", b -> isBlank(b) ? 0 : isLetter(b) ? 1 : 5);
    everyByte("fire 1", ";", b -> isBlank(b) || isDigit(b) ? 0 : b == ';' ? 8 : 7);
    everyByte("fire 1;", "", b -> isBlank(b) ? 0 : 8);
    everyByte("grows 1", "1;", b -> "+-*/%".indexOf(b) >= 0 || isDigit(b) ? 0 : isBlank(b) || b == ';' ? 9 : 8);
    everyByte("leaves 1", "1;", b -> "<>=".indexOf(b) >= 0 ? 0 : "+-*/%".indexOf(b) >= 0 || isDigit(b) ? 11 : isBlank(b) ? 10 : 9);
    good(" \n coat \n a \n size \n 1 \n pay \n 1 \n ; \n ");
    good("\n\nman\nm\nsize\n1\nage\n1\n;\n");
    good("leaves \n not \n [ \n size \n < \n 1 \n or \n all \n ] \n ; ");
    good("grows \n min \n ( \n 1 \n , \n 2 \n ) \n * \n if \n ( \n all \n , \n ( \n 1 \n ) \n , \n 2 \n ) \n ;");
    good("leaves[all]and not[1<2]or[[1=1]]and all;grows(1)+min(1,2)*max(1,2)/if(all,1,2)%(3);");
    bad(1, "^co at a size 1 pay 1;");
    bad(1, "coat a ^si ze 1 pay 1;");
    bad(1, "fire 1 ^2;");
    bad(1, "coat a ^b size 1 pay 1;");
  }

  private static void promise5SideBySide() {
    says(5, "words and numbers side by side need one");
    bad(1, "coat a size^1 pay 1;");
    bad(1, "coat a size 1^pay 1;");
    bad(1, "coat a^1 size 1 pay 1;");
    bad(1, "coat^1");
    bad(1, "fire^1;");
    bad(1, "leaves 1<2^or all;");
    bad(1, "leaves 1<2^and all;");
    bad(1, "leaves not^1<2;");
    bad(1, "grows^1;");
    bad(1, "grows size^1;");
    bad(1, "grows 1^size;");
    bad(1, "leaves all or^1<2;");
    bad(1, "^firea 1;");
    bad(1, "leaves ^notall;");
    bad(1, "leaves all ^orall;");
    good("grows 1+size*2;leaves size<1 or 2>size;");
  }

  /** For each prefix of a text: '.' it is good, 'e' it ends too soon, 'w' its last word is none that can be there. */
  private static void prefixes(String ahead, String text, String outcomes) {
    due("a letter for each byte of " + text, outcomes.length(), text.length());
    for (int k = 1; k <= text.length(); k++) {
      String prefix = ahead + text.substring(0, k);
      char outcome = outcomes.charAt(k - 1);
      int word = prefix.length();
      while (word > 0 && isLetter(prefix.charAt(word - 1))) word--;
      if (outcome == '.') good(prefix); else bad(1, outcome == 'e' ? prefix.length() : word, prefix);
    }
  }

  private static void promise5EndsTooSoon() {
    says(5, "at the text's length, if it ends too soon; words and numbers whole, at their first byte");
    prefixes("", "coat ab size 12 pay 3;", "wwweeeeewwweeeeewweee.");
    prefixes("", "man ab size 12 age 3; ", "wweeeeewwweeeeewweee..");
    prefixes(AM, "wears m of a ;", "wwwweeeeweeee.");
    prefixes("", "fire 100;", "wwweeeee.");
    prefixes("", "grows min ( 1,size)+2;", "wwwweewweeeeeewwweeee.");
    prefixes("", "warms if(all,(coat),2);", "wwwweeweewweeewwweeeee.");
    prefixes("", "leaves not [age<3 or all];", "wwwwweewweeewweeeeweewwee.");
    prefixes("", "leaves size%2=1 and coated>0;", "wwwwweewwweeeeeewweewwwwweee.");
    bad(1, "coat a size 1 pay 1 \n ^");
    bad(1, "coat^");
    bad(1, "coat \n^");
  }

  private static void promise5NoWorksGoesOn() {
    says(5, "1 the first byte with which no WORKS goes on (words and numbers whole, at their first byte)");
    String[] texts = {"^;", "fire 1;^;", "^size 1;", "^1;", "^coats a size 1 pay 1;", "^Coat a size 1 pay 1;", "coat ^A size 1 pay 1;",
        "coat ^1 size 1 pay 1;", "coat ^;", "coat a ^pay 1 size 1;", "coat a size ^a pay 1;", "coat a size 1 ^age 1;", "coat a size 1 pay ^;",
        "coat a size 1 pay 1 ^size 1;", "coat a size 1 pay 1^, man", "man m size 1 ^pay 1;", "man m ^age 1 size 1;", "man ^;",
        AM + "wears m ^a;", AM + "wears m of a ^of a;", AM + "wears ^1 of a;", AM + "wears m of ^1;", "fire ^;", "fire ^x;", "fire 1 ^x;",
        "warms ^;", "warms ^all;", "warms ^not all;", "warms ^[all];", "warms 1^<2;", "warms 1^=2;", "warms 1 ^or 2;", "warms 1+^;",
        "warms 1^(2);", "warms 1 ^2;", "warms (^);", "warms (1^;", "warms (1^,2);", "warms 1^);", "warms ^-1;", "warms ^+1;", "warms 1+^+1;",
        "warms 1*^-1;", "warms min^;", "warms min ^1;", "warms min(^);", "warms min(1^);", "warms min(1,^);", "warms min(1,2^,3);",
        "warms max(1^;", "warms max(1,2^;", "warms max^[1,2];", "warms if^;", "warms if(^);", "warms if(1^,2,3);", "warms if(all^);",
        "warms if(all,1^);", "warms if(all,1,^);", "warms if(all,1,2^,3);", "warms if(all,^all,1);", "warms if(all,1,^all);",
        "warms ^x;", "warms ^of;", "warms 1;^2;", "leaves ^;", "leaves 1^;", "leaves 1<^;", "leaves 1<2^<3;", "leaves ^<1;",
        "leaves 1<^=2;", "leaves (1^<2);", "leaves (1)^;", "leaves [1^];", "leaves [all^;", "leaves [all^);", "leaves [^];",
        "leaves all^];", "leaves all ^all;", "leaves all^<1;", "leaves all^+1<1;", "leaves not^;", "leaves not ^or all;", "leaves all or^;",
        "leaves all and ^and all;", "leaves all ^not all;", "leaves [all]^<1;", "leaves [1^]<1;", "leaves ^x;", "leaves 1<^all;",
        "leaves 1<^not 1;", "leaves 1<^[all];", "leaves ^or all;"};
    for (String text : texts) bad(1, text);
  }

  private static void promise5Values() {
    says(5, "PART: size; age; year; in warms: coat; pay; lining; in leaves: purse; coated");
    String[] words = {"size", "age", "year", "coat", "pay", "lining", "purse", "coated"};
    String inWarms = "yyyyyynn";
    String inGrows = "yyynnnnn";
    String inLeaves = "yyynnnyy";
    for (int k = 0; k < words.length; k++) {
      valueIn("warms ", words[k], ";", inWarms.charAt(k) == 'y');
      valueIn("warms if(1<", words[k], ",1,2);", inWarms.charAt(k) == 'y');
      valueIn("warms 1+2*min(3,", words[k], ");", inWarms.charAt(k) == 'y');
      valueIn("grows ", words[k], ";", inGrows.charAt(k) == 'y');
      valueIn("grows if(", words[k], "=1,1,2);", inGrows.charAt(k) == 'y');
      valueIn("leaves ", words[k], "=1;", inLeaves.charAt(k) == 'y');
      valueIn("leaves not [1>(", words[k], ")];", inLeaves.charAt(k) == 'y');
      valueIn("warms pay;leaves purse=1 or coated>", words[k], ";", inLeaves.charAt(k) == 'y');
      valueIn("leaves purse=1;warms lining+", words[k], ";", inWarms.charAt(k) == 'y');
    }
  }

  private static void valueIn(String ahead, String word, String behind, boolean may) {
    if (may) good(ahead + word + behind); else bad(1, ahead + "^" + word + behind);
  }

  // ---- what is open

  /** So many that are open, something inside them, and the ends of all. */
  private static String nest(String ahead, int n, String open, String inside, String close, String behind) {
    return ahead + open.repeat(n) + inside + close.repeat(n) + behind;
  }

  private static void promise5Open() {
    says(5, "5 the 8th ( [ not that is open at once, at it");
    good(nest("grows ", 7, "(", "1", ")", ";"));
    good(nest("leaves ", 7, "[", "all", "]", ";"));
    good(nest("leaves ", 7, "not ", "all", "", ";"));
    good(nest("leaves ", 7, "not ", "1=1", "", ";"));
    good(nest("grows ", 7, "min(1,", "1", ")", ";"));
    good(nest("grows ", 7, "max(", "1", ",2)", ";"));
    good(nest("grows ", 7, "if(all,1,", "1", ")", ";"));
    good(nest("grows ", 7, "if(all,", "1", ",2)", ";"));
    good("leaves " + times(3, "not [") + "not all" + times(3, "]") + ";");
    good("leaves " + times(3, "[not ") + "(1)=1" + times(3, "]") + ";");
    String[] inSums = {"^(1)", "min^(1,2)", "max ^(1,2)", "if\n^(all,1,2)"};
    for (String inside : inSums) {
      bad(5, nest("grows ", 7, "(", inside, ")", ";"));
      bad(5, nest("grows ", 7, "min(1,", inside, ")", ";"));
      bad(5, nest("warms ", 7, "max(", inside, ",2)", ";"));
      bad(5, nest("warms ", 7, "if(all,1,", inside, ")", ";"));
    }
    String[] inTests = {"^not all", "^[all]", "^(1)=1", "min^(1,2)=1", "max ^(1,2)=1", "if\n^(all,1,2)=1", "1=^(1)", "1=1+2*^(1)", "1=if^(all,1,2)"};
    for (String inside : inTests) {
      bad(5, nest("leaves ", 7, "not ", inside, "", ";"));
      bad(5, nest("leaves ", 7, "[", inside, "]", ";"));
      bad(5, "leaves " + times(3, "not [") + "not " + inside + times(3, "]") + ";");
    }
    bad(5, "grows (((((((^(");
    bad(5, "leaves [[[[[[[^[");
    bad(5, "leaves not not not not not not not ^not");
    bad(5, "grows (((((((^(1))))))));grows 2;");
    bad(1, "grows (((((((^[1");
    bad(1, "grows (((((((^not");
    bad(1, "grows (((((((1^(");
  }

  private static void promise5OpenAtOnce() {
    says(5, "open at once (not until its FACT ends)");
    good("grows (1)" + times(20, "+(1)") + ";");
    good("grows " + times(7, "(") + "1" + times(7, ")") + "+" + times(7, "(") + "1" + times(7, ")") + ";");
    good("grows min(1,2)" + times(9, "+min(1,2)*max(1,2)") + ";");
    good("leaves not all" + times(20, " and not all") + times(20, " or not 1=1") + ";");
    good("leaves [all]" + times(20, "and[all]") + ";");
    good("leaves " + times(7, "not ") + "all and [all];");
    good("leaves " + times(7, "not ") + "1=1 or (1)=1;");
    good("leaves " + times(7, "not ") + "1=1 and " + times(7, "not ") + "all;");
    good("leaves " + times(6, "not ") + "1=(1);");
    good("leaves " + times(6, "not ") + "(1)=(1);");
    good("leaves " + times(6, "not ") + "[all and all] and [all];");
    bad(5, "leaves " + times(6, "not ") + "[all and ^[all]];");
    bad(5, "leaves " + times(6, "not ") + "[all and ^not (1)=1];");
    good("leaves [" + times(6, "not ") + "all and " + times(6, "not ") + "all];");
    bad(5, "leaves [" + times(6, "not ") + "all and " + times(6, "not ") + "^not all];");
    good("warms if(" + times(6, "not ") + "all,1,(1));");
    good("warms if(" + times(6, "not ") + "all,((((((1)))))),1);");
    bad(5, "warms if(" + times(6, "not ") + "^not all,1,2);");
    bad(5, "warms if(all,((((((^(1))))))),1);");
    good("warms " + times(7, "(") + "1" + times(7, ")") + ";grows " + times(7, "(") + "1" + times(7, ")") + ";leaves " + times(7, "not ") + "all;");
    // a text that failed within what was open leaves nothing open for the next one
    x = new PegCoats();
    works("grows (((((((1");
    due("works() behind one that ended too soon", works(nest("grows ", 7, "(", "1", ")", ";")), 1);
    works("leaves not not not not ?");
    due("works() behind one that was wrong", works(nest("leaves ", 7, "not ", "all", "", ";")), 1);
  }

  private static void promise5First() {
    says(5, "FAULTS, the first along the text");
    bad(4, "coat a size ^0 pay 100;coat a size 1 pay 1;?");
    bad(4, "coat a size 1 pay ^100;coat a");
    bad(2, AM + "coat ^a size 0 pay 100;");
    bad(3, AM + "wears ^x of x;?");
    bad(3, AM + "wears m of ^x ?");
    bad(3, AM + "wears ^x ?");
    bad(1, "coat a size 1 ^age 100;coat a");
    bad(1, "coat a ^of 0 pay 100;");
    bad(6, "warms 1;^warms ((((((((1;coat a size 0");
    bad(5, "warms (((((((^(1;coat a size 0 pay 1;");
    bad(1, "warms (((((((1^;coat a size 0 pay 1;");
    bad(4, "fire ^101;" + times(80, "fire 1;"));
    bad(1, "coat a size 1 pay 1;^x;coat a size 0 pay 1;");
    bad(4, "coat a size ^0pay 1;");
    bad(2, AM + "coat ^a1 size 1 pay 1;");
    bad(3, AM + "wears ^x1 of a;");
  }
}
