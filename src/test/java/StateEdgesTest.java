/** What is told of now, sentence by sentence: promises 1 and 6 to 10, sums and tests of part I. */
public final class StateEdgesTest extends Dues {
  public static void main(String[] args) {
    promise1New();
    promise6Has();
    promise6Most();
    promise6Ends();
    promise7Letter();
    promise8Coat();
    promise9Man();
    promise10Warms();
    promise10Values();
    promise10Without();
    promise10FromTheLeft();
    promise10Division();
    promise10Limits();
    promise10Choices();
    promise10Signs();
    promise10Words();
    changeNothing();
    finish();
  }

  private static void promise1New() {
    says(1, "No COATS, nobody; the seed is 1");
    due("NONE", PegCoats.NONE, -1);
    due("NOTHING", PegCoats.NOTHING, -1000000000000000L);
    x = new PegCoats();
    int[] has = {0, 0, 0, 0, 0, 0, 0, 0, 0, 0, 1};
    for (int k = 0; k < has.length; k++) due("has(" + k + ")", x.has(k), has[k]);
    for (int k = 0; k < 6; k++) due("status(" + k + ")", x.status(k), 0);
    due("fault(0)", x.fault(0), 0);
    due("fault(1)", x.fault(1), NONE);
    due("letter(0, 0, 0)", x.letter(0, 0, 0), NONE);
    due("letter(1, 0, 0)", x.letter(1, 0, 0), NONE);
    due("coat(0, 0)", x.coat(0, 0), NONE);
    due("man(0, 0)", x.man(0, 0), NONE);
    due("warms(0, 0)", x.warms(0, 0), NOTHING);
    due("later(0, 0)", x.later(0, 0), NONE);
    due("purse(0, 0)", x.purse(0, 0), NONE);
    due("goes(0)", x.goes(0), NONE);
    due("match(NONE)", x.match(NONE), 0);
    due("match(0)", x.match(0), NONE);
    due("glad(0)", x.glad(0), 0);
    due("glad(1)", x.glad(1), NONE);
    due("glad(2)", x.glad(2), NONE);
    due("passes(0, 0, NONE)", x.passes(0, 0, NONE), NONE);
    due("waits(0, 1)", x.waits(0, 1), NONE);
    due("called(1, 0)", x.called(1, 0), NONE);
    due("had(0)", x.had(0), NONE);
    due("tells(0, 0)", x.tells(0, 0), NONE);
    due("kept(0, 0)", x.kept(0, 0), NONE);
    due("octet(0)", x.octet(0), NONE);
    due("pass(0, 1)", x.pass(0, 1), false);
    due("put(0, 0)", x.put(0, 0), false);
    due("hang(0)", x.hang(0), false);
    due("undo()", x.undo(), false);
    due("end(0), the tape is empty", x.end(0), true);
    due("end(1), the tape is empty", x.end(1), false);
    due("image()", x.image(), 3);
    due("years(1)", x.years(1), 0);
    due("chance(1)", x.chance(1), 0);
    due("has(10) behind one draw of the seed 1", x.has(10), 1103527590);
  }

  private static void promise6Has() {
    says(6, "How many there are");
    busy();
    int[] has = {3, 4, 2, 3, 1, 1, 1, 2, 2, 5};
    for (int k = 0; k < has.length; k++) due("has(" + k + ")", x.has(k), has[k]);
    says(6, "NONE for others");
    for (int what : new int[] {-2, -1, 11, 12}) due("has(" + what + ")", x.has(what), NONE);
    for (int what : FAR) due("has(" + what + ")", x.has(what), NONE);
    says(6, "4 who have a COAT, 5 COATS on their pegs");
    fresh(FULL);
    due("has(4)", x.has(4), 0);
    due("has(5)", x.has(5), 8);
    for (int m = 0; m < 7; m++) {
      x.put(m, m);
      due("has(4)", x.has(4), m + 1);
      due("has(5)", x.has(5), 7 - m);
    }
    says(6, "3 MEN who are there, 6 BURNT");
    for (int m = 0; m < 7; m++) x.hang(m);
    int[] bytes = picture();
    for (int m = 0; m < 7; m++) {
      bytes[manAt(m) + 5] = 0;
      on(bytes);
      due("has(3)", x.has(3), 6 - m);
    }
    due("has(1), those who are gone too", x.has(1), 7);
    for (int c = 0; c < 8; c++) {
      bytes[coatAt(c)] = 1;
      on(bytes);
      due("has(6)", x.has(6), c + 1);
      due("has(5)", x.has(5), 7 - c);
    }
    due("has(0), the burnt ones too", x.has(0), 8);
  }

  private static void promise6Most() {
    says(6, "7 told as KEPT (the last 40)");
    fresh(LIVERY);
    x.years(39);
    due("has(7)", x.has(7), 39);
    x.years(1);
    due("has(7)", x.has(7), 40);
    x.chance(1);
    due("has(7)", x.has(7), 40);
    x.undo();
    x.undo();
    due("has(7)", x.has(7), 39);
    says(6, "8 rows SEEN");
    for (int n = 1; n <= 16; n++) {
      see(new int[3 * n]);
      due("has(8)", x.has(8), n);
    }
    see(0, 0, 255);
    due("has(8), those of the latest see()", x.has(8), 1);
    says(6, "9 ACTS that can be undone (the last 20)");
    fresh(LIVERY);
    for (int n = 1; n <= 45; n++) {
      x.pass(0, 1);
      due("has(9)", x.has(9), Math.min(20, n));
    }
    for (int n = 19; n >= 0; n--) {
      x.undo();
      due("has(9)", x.has(9), n);
    }
  }

  private static void promise6Ends() {
    says(6, "2 YEAR");
    fresh(LIVERY);
    due("has(2)", x.has(2), 0);
    x.years(1);
    due("has(2)", x.has(2), 1);
    x.chance(40);
    due("has(2)", x.has(2), 41);
    inYear(999);
    due("has(2)", x.has(2), 999);
    says(6, "10 the seed");
    for (int seed : new int[] {0, 1, 2, 1073741824, Integer.MAX_VALUE}) {
      x.seed(seed);
      due("has(10)", x.has(10), seed);
    }
  }

  private static void promise7Letter() {
    says(7, "Letter k (0 .. 5) of the NAME of a COAT (kind 0), a MAN (1): 1 .. 26; 0 behind it");
    String[] coats = {"a", "z", "az", "zaz", "bcde", "vwxyz", "abcdef", "zzzzzz"};
    String[] men = {"m", "za", "yzy", "ghij", "klmno", "pqrstu", "aaaaaa"};
    StringBuilder text = new StringBuilder();
    for (String name : coats) text.append("coat ").append(name).append(" size 1 pay 1;");
    for (String name : men) text.append("man ").append(name).append(" size 1 age 1;");
    fresh(text.toString());
    lettersOf(0, coats);
    lettersOf(1, men);
    says(7, "NONE when there is none such");
    int[][] none = {{0, 0, -1}, {0, 0, 6}, {0, 7, 6}, {1, 6, -1}, {1, 6, 6}, {0, -1, 0}, {0, 8, 0}, {1, -1, 0}, {1, 7, 0}, {-1, 0, 0}, {2, 0, 0}};
    for (int[] of : none) due("letter(" + of[0] + ", " + of[1] + ", " + of[2] + ")", x.letter(of[0], of[1], of[2]), NONE);
    for (int far : FAR) {
      due("letter(" + far + ", 0, 0)", x.letter(far, 0, 0), NONE);
      due("letter(0, " + far + ", 0)", x.letter(0, far, 0), NONE);
      due("letter(1, " + far + ", 0)", x.letter(1, far, 0), NONE);
      due("letter(1, 0, " + far + ")", x.letter(1, 0, far), NONE);
    }
  }

  private static void lettersOf(int kind, String[] names) {
    for (int which = 0; which < names.length; which++) {
      for (int k = 0; k < 6; k++) {
        int letter = k < names[which].length() ? names[which].charAt(k) - 'a' + 1 : 0;
        due("letter(" + kind + ", " + which + ", " + k + ")", x.letter(kind, which, k), letter);
      }
    }
  }

  private static void promise8Coat() {
    says(8, "Of a COAT: 0 size, 1 pay, 2 LINING, 3 whether BURNT, 4 who has it (NONE)");
    busy();
    int[][] rows = {{10, 5, 1, 1, NONE}, {12, 7, 2, 0, 1}, {20, 1, 3, 0, NONE}};
    for (int c = 0; c < 3; c++) {
      for (int k = 0; k < 5; k++) due("coat(" + c + ", " + k + ")", x.coat(c, k), rows[c][k]);
    }
    says(8, "NONE when there is none such, or for others");
    for (int what : new int[] {-2, -1, 5, 6}) due("coat(0, " + what + ")", x.coat(0, what), NONE);
    for (int coat : new int[] {-2, -1, 3, 4, 7, 8}) {
      for (int k = 0; k < 5; k++) due("coat(" + coat + ", " + k + ")", x.coat(coat, k), NONE);
    }
    for (int far : FAR) {
      due("coat(" + far + ", 0)", x.coat(far, 0), NONE);
      due("coat(0, " + far + ")", x.coat(0, far), NONE);
    }
    fresh(FULL + "wears q of h;");
    int[] last = {18, 8, 1, 0, 6};
    for (int k = 0; k < 5; k++) due("coat(7, " + k + ")", x.coat(7, k), last[k]);
    due("coat(8, 0)", x.coat(8, 0), NONE);
    says(8, "LINING is how many have put it on, 99 at most");
    with(coatAt(7) + 1, 97);
    x.pass(6, 0);
    due("coat(7, 2)", x.coat(7, 2), 98);
    x.pass(6, 0);
    due("coat(7, 2)", x.coat(7, 2), 99);
    x.pass(6, 0);
    due("coat(7, 2)", x.coat(7, 2), 99);
    x.hang(6);
    x.put(6, 7);
    due("coat(7, 2)", x.coat(7, 2), 99);
    x.hang(6);
    x.years(1);
    due("coat(7, 2)", x.coat(7, 2), 99);
  }

  private static void promise9Man() {
    says(9, "Of a MAN: 0 size, 1 age, 2 his COAT (NONE), 3 purse, 4 whether he is there");
    busy();
    // al drew 7 by blue's first year; bo 1 by gray, then 7; cy 1 by gray
    int[][] rows = {{10, 22, NONE, 7, 1}, {12, 32, 1, 8, 1}, {11, 66, NONE, 1, 1}, {50, 91, NONE, 0, 0}};
    for (int m = 0; m < 4; m++) {
      for (int k = 0; k < 5; k++) due("man(" + m + ", " + k + ")", x.man(m, k), rows[m][k]);
    }
    says(9, "NONE when there is none such, or for others");
    for (int what : new int[] {-2, -1, 5, 6}) due("man(0, " + what + ")", x.man(0, what), NONE);
    for (int man : new int[] {-2, -1, 4, 5, 6, 7}) {
      for (int k = 0; k < 5; k++) due("man(" + man + ", " + k + ")", x.man(man, k), NONE);
    }
    for (int far : FAR) {
      due("man(" + far + ", 0)", x.man(far, 0), NONE);
      due("man(0, " + far + ")", x.man(0, far), NONE);
    }
    fresh(FULL + "wears q of h;");
    int[] last = {17, 7, 7, 0, 1};
    for (int k = 0; k < 5; k++) due("man(6, " + k + ")", x.man(6, k), last[k]);
    due("man(7, 0)", x.man(7, 0), NONE);
  }

  // ---- warms

  private static void promise10Warms() {
    says(10, "How much a COAT (BURNT or not) WARMS a MAN (there or not) now");
    busy();
    int[][] rows = {{10, 8, 0}, {8, 10, 2}, {9, 9, 1}, {-30, -28, -20}};
    for (int m = 0; m < 4; m++) {
      for (int c = 0; c < 3; c++) due("warms(" + m + ", " + c + ")", x.warms(m, c), rows[m][c]);
    }
    says(10, "NOTHING when there are none such");
    for (int none : new int[] {-2, -1, 7, 8}) {
      due("warms(" + none + ", 0)", x.warms(none, 0), NOTHING);
      due("warms(0, " + none + ")", x.warms(0, none), NOTHING);
      due("warms(" + none + ", " + none + ")", x.warms(none, none), NOTHING);
    }
    due("warms(4, 0)", x.warms(4, 0), NOTHING);
    due("warms(3, 3)", x.warms(3, 3), NOTHING);
    for (int far : FAR) {
      due("warms(" + far + ", 0)", x.warms(far, 0), NOTHING);
      due("warms(0, " + far + ")", x.warms(0, far), NOTHING);
    }
    fresh(FULL);
    due("warms(6, 7)", x.warms(6, 7), 9);
    due("warms(7, 7)", x.warms(7, 7), NOTHING);
    due("warms(6, 8)", x.warms(6, 8), NOTHING);
    fresh("man m size 1 age 1;");
    due("warms(0, 0) without coats", x.warms(0, 0), NOTHING);
    fresh("coat a size 1 pay 1;");
    due("warms(0, 0) without men", x.warms(0, 0), NOTHING);
  }

  private static void promise10Values() {
    says(10, "Of a MAN his size, his age; the YEAR; of a COAT its size, its pay, how many have put it on");
    String[] words = {"size", "age", "year", "coat", "pay", "lining"};
    int[] most = {99, 99, 999, 99, 99, 99};
    int[] least = {1, 0, 0, 1, 0, 0};
    for (int k = 0; k < words.length; k++) {
      fresh("coat c size 99 pay 99;man m size 99 age 99;warms " + words[k] + ";");
      with(coatAt(0) + 1, 99);
      inYear(999);
      due("warms(0, 0) by " + words[k], x.warms(0, 0), most[k]);
      fresh("coat c size 1 pay 0;man m size 1 age 0;warms " + words[k] + ";");
      due("warms(0, 0) by " + words[k], x.warms(0, 0), least[k]);
    }
    fresh("coat c size 40 pay 50;coat d size 41 pay 51;man m size 20 age 30;man n size 21 age 31;"
        + "warms (size*100+age)*100+coat;");
    due("warms(0, 0)", x.warms(0, 0), 203040);
    due("warms(1, 0)", x.warms(1, 0), 213140);
    due("warms(0, 1)", x.warms(0, 1), 203041);
    due("warms(1, 1)", x.warms(1, 1), 213141);
  }

  private static void promise10Without() {
    says(10, "without it: 10 less the difference of his size and its");
    int[][] rows = {{50, 50, 10}, {50, 49, 9}, {49, 50, 9}, {60, 50, 0}, {50, 60, 0}, {61, 50, -1}, {50, 61, -1}, {99, 1, -88}, {1, 99, -88}};
    for (int[] row : rows) {
      fresh("coat c size " + row[0] + " pay 1;man m size " + row[1] + " age 1;");
      due("warms(0, 0) of " + row[0] + " and " + row[1], x.warms(0, 0), row[2]);
    }
  }

  private static void sum(String text, long want) {
    fresh("coat c size 5 pay 3;man m size 7 age 9;warms " + text + ";");
    due("warms(0, 0) by " + text, x.warms(0, 0), want);
  }

  private static void promise10FromTheLeft() {
    says(10, "SUM: PRODUCT { + or - PRODUCT }. PRODUCT: PART { * or / or % PART }. All from the left on");
    sum("10-3-2", 5);
    sum("10-3+2", 9);
    sum("10-(3+2)", 5);
    sum("1+2*3", 7);
    sum("1*2+3", 5);
    sum("10-2*3", 4);
    sum("10-6/2", 7);
    sum("10+7%4", 13);
    sum("100/10/5", 2);
    sum("100/(10/5)", 50);
    sum("100/7*7", 98);
    sum("7*100/7", 100);
    sum("100%30%7", 3);
    sum("100%(30%7)", 0);
    sum("17%10*3", 21);
    sum("2*17%10", 4);
    sum("2*(17%10)", 14);
    sum("17/2%3", 2);
    sum("17%5/2", 1);
    sum("1+2*3-4/2+5%3*2", 9);
    sum("((1+2))*((3))", 9);
    sum("0", 0);
    sum("9999", 9999);
    sum("0009", 9);
    sum("0-9999", -9999);
  }

  private static void promise10Division() {
    says(10, "/ gives the greatest whole number not above, % what is left (a less b times that)");
    int[][] rows = {{7, 2, 3, 1}, {-7, 2, -4, 1}, {7, -2, -4, -1}, {-7, -2, 3, -1}, {8, 2, 4, 0}, {-8, 2, -4, 0}, {8, -2, -4, 0}, {-8, -2, 4, 0},
        {1, 9999, 0, 1}, {-1, 9999, -1, 9998}, {1, -9999, -1, -9998}, {-1, -9999, 0, -1}, {0, 5, 0, 0}, {0, -5, 0, 0}, {1, 1, 1, 0}, {-1, 1, -1, 0},
        {9999, 1, 9999, 0}, {-9999, -1, 9999, 0}, {9998, 9999, 0, 9998}, {9999, 9998, 1, 1}};
    for (int[] row : rows) {
      sum(told(row[0]) + "/" + told(row[1]), row[2]);
      sum(told(row[0]) + "%" + told(row[1]), row[3]);
    }
    says(10, "by 0 both give 0");
    for (int a : new int[] {0, 1, -1, 9999, -9999}) {
      sum(told(a) + "/0", 0);
      sum(told(a) + "%0", 0);
      sum(told(a) + "/(size-7)+4", 4);
      sum("4-" + told(a) + "%(age-9)", 4);
    }
    sum("1000*1000/0", 0);
    sum("0/0", 0);
    sum("0%0", 0);
  }

  private static String told(int n) {
    return n < 0 ? "(0-" + -n + ")" : String.valueOf(n);
  }

  private static void promise10Limits() {
    says(10, "each result above 10 to the 6 is that, below -10 to the 6 likewise");
    String most = "(1000*1000)";
    String least = "((0-1000)*1000)";
    sum("1000*1000", 1000000);
    sum("999*1001", 999999);
    sum("1000*1000-1", 999999);
    sum("1000*1000+1", 1000000);
    sum("1000*1000+1-1", 999999);
    sum("1000*1001", 1000000);
    sum("1001*1000-1", 999999);
    sum("9999*9999", 1000000);
    sum("9999*9999/1000", 1000);
    sum("(0-1000)*1000", -1000000);
    sum("(0-999)*1001", -999999);
    sum("(0-1000)*1000+1", -999999);
    sum("(0-1000)*1000-1", -1000000);
    sum("(0-1000)*1000-1+1", -999999);
    sum("(0-1001)*1000+1", -999999);
    sum("(0-9999)*9999", -1000000);
    sum(most + "*" + most, 1000000);
    sum(most + "*" + least, -1000000);
    sum(least + "*" + least, 1000000);
    sum(most + "+" + most, 1000000);
    sum(most + "-" + least, 1000000);
    sum(least + "-" + most, -1000000);
    sum(least + "+" + least, -1000000);
    sum(most + "+" + least, 0);
    sum(most + "/(0-1)", -1000000);
    sum(least + "/(0-1)", 1000000);
    sum(least + "%7", 6);
    sum(most + "%7", 1);
    sum(most + "%(0-7)", -6);
    sum("max(" + most + "+5,1)-1", 999999);
    sum("min(" + least + "-5,1)+1", -999999);
    sum("if(all," + most + "+1,0)-1", 999999);
    sum("if(1000*1000+1=1000*1000,1,2)", 1);
  }

  private static void promise10Choices() {
    says(10, "min ( SUM , SUM ) ; max ( SUM , SUM ) ; if ( TEST , SUM , SUM ) (the first SUM where the TEST holds, else the second one)");
    sum("min(3,4)", 3);
    sum("min(4,3)", 3);
    sum("min(3,3)", 3);
    sum("min(0-1,0)", -1);
    sum("max(3,4)", 4);
    sum("max(4,3)", 4);
    sum("max(3,3)", 3);
    sum("max(0-1,0)", 0);
    sum("if(all,3,4)", 3);
    sum("if(not all,3,4)", 4);
    sum("if(0=1,3,if(1=1,5,6))", 5);
    sum("if(all,if(all,1,2),if(all,3,4))", 1);
    sum("if(not all,if(all,1,2),if(not all,3,4))", 4);
    sum("2*min(1+2,9)+max(2*3,1)*2", 18);
    sum("if(all,1,2/0)", 1);
    sum("if(size=7,min(age,pay),max(age,pay))", 3);
    sum("if(size=8,min(age,pay),max(age,pay))", 9);
    sum("min(max(1,2),max(3,if(all,4,5)))", 2);
  }

  private static void test(String text, boolean want) {
    sum("if(" + text + ",1,0)", want ? 1 : 0);
    fresh("man m size 7 age 8;leaves " + text + ";");
    due("goes(0) by " + text, x.goes(0), want ? 0 : NONE);
  }

  private static void promise10Signs() {
    says(10, "SUM SIGN SUM, SIGN < or > or =");
    for (int a : new int[] {-1, 0, 1, 9999}) {
      for (int b = a - 1; b <= a + 1; b++) {
        if (b > 9999) continue;
        test(told(a) + "<" + told(b), a < b);
        test(told(a) + ">" + told(b), a > b);
        test(told(a) + "=" + told(b), a == b);
      }
    }
    for (String yes : new String[] {"all", "1=1", "1<2", "2>1", "[all]", "not 1=2"}) test("not " + yes, false);
    for (String no : new String[] {"not all", "1=2", "2<1", "1<1", "1>2", "1>1", "[not all]"}) test("not " + no, true);
    test("1+2<2*2", true);
    test("1+2=6/2", true);
    test("7-2>2+3", false);
  }

  private static void promise10Words() {
    says(10, "TEST: BOTH { or BOTH }. BOTH: FACT { and FACT }. FACT: not FACT; [ TEST ] ; all; SUM SIGN SUM");
    for (int bits = 0; bits < 8; bits++) {
      boolean a = (bits & 1) != 0;
      boolean b = (bits & 2) != 0;
      boolean c = (bits & 4) != 0;
      String p = a ? "all" : "1=2";
      String q = b ? "2>1" : "not all";
      String r = c ? "1<2" : "0=1";
      test(p + " or " + q + " and " + r, a || b && c);
      test(p + " and " + q + " or " + r, a && b || c);
      test("[" + p + " or " + q + "] and " + r, (a || b) && c);
      test(p + " and [" + q + " or " + r + "]", a && (b || c));
      test("not " + p + " and " + q, !a && b);
      test("not " + p + " or " + q, !a || b);
      test("not [" + p + " and " + q + "]", !(a && b));
      test("not [" + p + " or " + q + "] or " + r, !(a || b) || c);
      test("not not " + p + " and not " + q, a && !b);
      test(p + " and " + q + " and " + r, a && b && c);
      test(p + " or " + q + " or " + r, a || b || c);
      test("[[" + p + "]] and [not " + r + "]", a && !c);
    }
  }

  // ---- asking changes nothing

  private static void changeNothing() {
    says(6, "what is asked stays as it is");
    busy();
    PegCoats other = x;
    busy();
    for (int m = -1; m < 5; m++) {
      for (int k = -1; k < 2; k++) {
        x.has(k);
        x.letter(k, m, k);
        x.coat(k, m);
        x.man(m, k);
        x.warms(m, k);
        x.later(m, 5 * k);
        x.purse(m, 5 * k);
        x.passes(m, k, -1);
        x.waits(m, k);
        x.tells(m, k);
        x.kept(k, m);
      }
      x.goes(m);
      x.match(m);
      x.glad(m);
      x.called(m + 10, m);
      x.had(m);
      x.fault(m);
      x.octet(m);
      x.status(m);
    }
    alike("what was asked", other);
    for (int k = 0; k < 6; k++) due("status(" + k + ")", x.status(k), other.status(k));
    due("feed()", x.feed(0, 0, 0, 0, 0), other.feed(0, 0, 0, 0, 0));
    due("undo()", x.undo(), other.undo());
    standsAlike("undo()", other);
  }
}
