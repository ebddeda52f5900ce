/** For each promise of the document: ordinary inputs, the edges that it names, and wrong inputs. */
public final class PromisesTest extends Dues {
  public static void main(String[] args) {
    promise1New();
    promise2Feed();
    promise3End();
    promise4Works();
    promise5Fault();
    promise5Places();
    promise6Has();
    promise7Letter();
    promise8Coat();
    promise9Man();
    promise10Warms();
    promise10Tests();
    promise11Later();
    promise12Purse();
    promise13Goes();
    promise14Match();
    promise15Glad();
    promise16Passes();
    promise17Waits();
    promise18Called();
    promise19See();
    promise20Had();
    promise21Tells();
    promise22Years();
    promise23Chance();
    promise24Pass();
    promise25Put();
    promise26Hang();
    promise27Undo();
    promise28Seed();
    promise29Kept();
    promise30Image();
    promise31Octet();
    promise32On();
    promise33Status();
    finish();
  }

  private static void promise1New() {
    x = new PegCoats();
    for (int k = 0; k < 10; k++) due(1, "has(" + k + ")", x.has(k), 0);
    due(1, "has(10)", x.has(10), 1);
    due(1, "chance(1)", x.chance(1), 0);
    due(1, "has(10)", x.has(10), 1103527590);
  }

  private static void promise2Feed() {
    x = new PegCoats();
    due(2, "feed", x.feed(0x66697265, 0x20313b66, 0x69726520, 0x323b6669, 0x72652033), 20);
    due(2, "feed", x.feed(0x3b666972, 0x6520343b, 0x20202020, 0x0a0a0a0a, 0x20202020), 40);
    due(2, "works()", x.works(), 4);
    for (int k = 1; k <= 80; k++) due(2, "feed " + k, x.feed(-1, -1, -1, -1, -1), 20 * k);
    due(2, "feed 81", x.feed(0, 0, 0, 0, 0), NONE);
    due(2, "status(0)", x.status(0), 1);
    due(2, "end(1581)", x.end(1581), true);
    due(2, "feed beyond", x.feed(0, 0, 0, 0, 0), NONE);
    due(2, "end(1580)", x.end(1580), true);
    due(2, "feed up to 1600", x.feed(0, 0, 0, 0, 0), 1600);
    due(2, "works() of bytes 255", x.works(), NONE);
    due(2, "fault(1)", x.fault(1), 0);
  }

  private static void promise3End() {
    x = new PegCoats();
    due(3, "end(0)", x.end(0), true);
    due(3, "end(1)", x.end(1), false);
    due(3, "end(-1)", x.end(-1), false);
    x.feed(0x66697265, 0x20313b66, 0, 0, 0);
    due(3, "end(21)", x.end(21), false);
    due(3, "end(20)", x.end(20), true);
    due(3, "end(7)", x.end(7), true);
    due(3, "end(8)", x.end(8), false);
    due(3, "works()", x.works(), 1);
    due(3, "status(0)", x.status(0), 4);
  }

  private static void promise4Works() {
    x = new PegCoats();
    due(4, "works() of nothing", x.works(), 0);
    due(4, "works() of blanks", works(" \n "), 0);
    due(4, "works()", works(LIVERY), 9);
    x.seed(77);
    x.years(2);
    see(0, 0, 255);
    x.put(0, 0);
    due(4, "works() with a fault", works("coat"), NONE);
    due(4, "has(2) stays", x.has(2), 2);
    due(4, "has(7) stays", x.has(7), 2);
    due(4, "has(8) stays", x.has(8), 1);
    due(4, "has(9) stays", x.has(9), 1);
    due(4, "status(1)", x.status(1), 1);
    due(4, "the tape goes", x.feed(0, 0, 0, 0, 0), 20);
    x.end(0);
    due(4, "works() anew", works(LIVERY), 9);
    due(4, "has(2)", x.has(2), 0);
    due(4, "has(7)", x.has(7), 0);
    due(4, "has(8)", x.has(8), 0);
    due(4, "has(9)", x.has(9), 0);
    due(4, "has(10) stays", x.has(10), 77);
    due(4, "man(0, 3)", x.man(0, 3), 0);
    // long texts one behind the other: none may be short of room for the next
    String longest = "coat a size 5 pay 3;man m size 5 age 9;warms 1" + times(770, "+1") + ";";
    for (int k = 0; k < 5; k++) {
      due(4, "works() of a long text " + k, works(longest), 3);
      due(4, "warms(0, 0) by a long text " + k, x.warms(0, 0), 771);
    }
    due(4, "80 statements", works(times(80, "fire 1;")), 80);
    due(4, "no coats are left", x.has(0), 0);
  }

  /** The fault of a text (0: none) and its place. */
  private static void fault(String text, int kind, int place) {
    x = new PegCoats();
    int got = works(text);
    due(5, "works() of " + text, got == NONE ? 1 : 0, kind == 0 ? 0 : 1);
    due(5, "fault(0) of " + text, x.fault(0), kind);
    due(5, "fault(1) of " + text, x.fault(1), place);
    due(5, "fault(2) of " + text, x.fault(2), NONE);
    due(5, "fault(-1) of " + text, x.fault(-1), NONE);
  }

  private static void promise5Fault() {
    String ab = "coat a size 1 pay 1;man b size 1 age 1;";
    x = new PegCoats();
    due(5, "fault(0) ahead", x.fault(0), 0);
    due(5, "fault(1) ahead", x.fault(1), NONE);
    fault(ab, 0, NONE);
    fault("coat a size 1 pay 1", 1, 19);
    fault("coat a size 1 pay 1  ", 1, 21);
    fault("coat a size 1 pay 1;;", 1, 20);
    fault("coat a size1 pay 1;", 1, 11);
    fault("coat a size 1pay 1;", 1, 13);
    fault("coat a sized 1 pay 1;", 1, 7);
    fault("coat 7 size 1 pay 1;", 1, 5);
    fault("coat abcdef size 1 pay 1;", 0, NONE);
    fault("coat abcdefg size 1 pay 1;", 1, 11);
    fault("coat A size 1 pay 1;", 1, 5);
    fault("coat\ta size 1 pay 1;", 1, 4);
    fault("coat a size 12345 pay 1;", 1, 16);
    fault("coat a size 0012 pay 0000;", 0, NONE);
    fault("abcdefgh", 1, 6);
    fault("fire abcdefgh", 1, 11);
    fault("12345", 1, 4);
    fault("1234", 1, 0);
    fault("fire 1;fire 2;fire", 1, 18);
    fault("coat pay size 1 pay 1;", 1, 5);
    fault("wears of of a;", 1, 6);
    fault("wears 1 of a;", 1, 6);
    fault(ab + "man a size 1 age 1;", 2, 43);
    fault(ab + "coat b size 1 pay 1;", 2, 44);
    fault(ab + "wears a of a;", 3, 45);
    fault(ab + "wears c of a;", 3, 45);
    fault(ab + "wears b of b;", 3, 50);
    fault(ab + "wears b of a;wears b of a;", 3, 58);
    fault(ab + "man c size 1 age 1;wears b of a;wears c of a;", 3, 82);
    fault("wears b of a;" + ab, 3, 6);
    fault("coat a size 0 pay 1;", 4, 12);
    fault("coat a size 99 pay 99;", 0, NONE);
    fault("coat a size 100 pay 1;", 4, 12);
    fault("coat a size 1 pay 100;", 4, 18);
    fault("man a size 0 age 1;", 4, 11);
    fault("man a size 100 age 1;", 4, 11);
    fault("man a size 99 age 100;", 4, 18);
    fault("man a size 99 age 99;", 0, NONE);
    fault("fire 100;fire 0;", 0, NONE);
    fault("fire 101;", 4, 5);
    fault("fire 9999;", 4, 5);
  }

  private static void promise5Places() {
    fault("grows (((((((1)))))));", 0, NONE);
    fault("grows ((((((((1))))))));", 5, 13);
    fault("grows (((((((1)))))))+(((((((1)))))));", 0, NONE);
    fault("leaves not not not not not not not all;", 0, NONE);
    fault("leaves not not not not not not not not all;", 5, 35);
    fault("leaves not not not not not not not (1)<2;", 5, 35);
    fault("leaves not not not not not not not all and not [all];", 0, NONE);
    fault("leaves [[[[[[[all]]]]]]];", 0, NONE);
    fault("leaves [[[[[[[[all]]]]]]]];", 5, 14);
    fault("grows min(1,min(1,min(1,min(1,min(1,min(1,min(1,2)))))));", 0, NONE);
    fault("grows min(1,min(1,min(1,min(1,min(1,min(1,min(1,(2))))))));", 5, 48);
    fault("grows (((((((if(all,1,2))))))));", 5, 15);
    fault("grows (((((((1(", 1, 14);
    fault("grows 1+;", 1, 8);
    fault("grows -1;", 1, 6);
    fault("grows (1;", 1, 8);
    fault("grows 1);", 1, 7);
    fault("grows [1];", 1, 6);
    fault("grows 1<2;", 1, 7);
    fault("grows min(1);", 1, 11);
    fault("grows max(1,2,3);", 1, 13);
    fault("grows if(1,2,3);", 1, 10);
    fault("grows if(all,1);", 1, 14);
    fault("grows min 1;", 1, 10);
    fault("grows lining;", 1, 6);
    fault("warms coated;", 1, 6);
    fault("leaves coat>1;", 1, 7);
    fault("leaves 1;", 1, 8);
    fault("leaves 1<2<3;", 1, 10);
    fault("leaves all<1;", 1, 10);
    fault("leaves (1<2);", 1, 9);
    fault("leaves not;", 1, 10);
    fault("leaves all or;", 1, 13);
    fault("leaves all and or all;", 1, 15);
    fault("leaves 1<2or all;", 1, 10);
    fault("leaves 1<2 or all;", 0, NONE);
    fault("leaves[all]and[all];", 0, NONE);
    fault("warms 1;grows 1;warms 1;", 6, 16);
    fault("grows 1;grows 1;", 6, 8);
    fault("leaves all; leaves", 6, 12);
    StringBuilder coats = new StringBuilder();
    StringBuilder men = new StringBuilder();
    for (char c = 'a'; c <= 'h'; c++) coats.append("coat ").append(c).append(" size 1 pay 1;");
    for (char c = 'k'; c <= 'q'; c++) men.append("man ").append(c).append(" size 1 age 1;");
    fault(coats.toString() + men, 0, NONE);
    fault(coats + "coat", 6, 160);
    fault(men + "man", 6, 133);
    fault(times(80, "fire 1;"), 0, NONE);
    fault(times(80, "fire 1;") + " fire", 6, 561);
    fault(times(80, "fire 1;") + "nought", 6, 560);
  }

  private static void promise6Has() {
    fresh(LIVERY);
    int[] first = {3, 3, 0, 3, 2, 1, 0, 0, 0, 0, 1};
    for (int k = 0; k < first.length; k++) due(6, "has(" + k + ")", x.has(k), first[k]);
    due(6, "has(11)", x.has(11), NONE);
    due(6, "has(-1)", x.has(-1), NONE);
    x.years(2);
    see(0, 0, 1, 1, 1, 255);
    int[] later = {3, 3, 2, 3, 3, 0, 0, 2, 2, 1, 1};
    for (int k = 0; k < later.length; k++) due(6, "has(" + k + ") later", x.has(k), later[k]);
    x.chance(1);
    due(6, "has(6)", x.has(6), 1);
    fresh(HEIR);
    x.years(2);
    due(6, "has(3)", x.has(3), 1);
    due(6, "has(4)", x.has(4), 1);
    due(6, "has(5)", x.has(5), 1);
  }

  private static void promise7Letter() {
    fresh("coat z size 1 pay 1;coat abcdef size 1 pay 1;man ya size 1 age 1;");
    int[] whole = {1, 2, 3, 4, 5, 6};
    for (int k = 0; k < 6; k++) due(7, "letter(0, 1, " + k + ")", x.letter(0, 1, k), whole[k]);
    due(7, "letter(0, 0, 0)", x.letter(0, 0, 0), 26);
    for (int k = 1; k < 6; k++) due(7, "letter(0, 0, " + k + ")", x.letter(0, 0, k), 0);
    due(7, "letter(1, 0, 0)", x.letter(1, 0, 0), 25);
    due(7, "letter(1, 0, 1)", x.letter(1, 0, 1), 1);
    due(7, "letter(0, 0, 6)", x.letter(0, 0, 6), NONE);
    due(7, "letter(0, 0, -1)", x.letter(0, 0, -1), NONE);
    due(7, "letter(0, 2, 0)", x.letter(0, 2, 0), NONE);
    due(7, "letter(1, 1, 0)", x.letter(1, 1, 0), NONE);
    due(7, "letter(1, -1, 0)", x.letter(1, -1, 0), NONE);
    due(7, "letter(2, 0, 0)", x.letter(2, 0, 0), NONE);
    due(7, "letter(-1, 0, 0)", x.letter(-1, 0, 0), NONE);
  }

  private static void promise8Coat() {
    fresh(LIVERY);
    int[][] rows = {{10, 5, 1, 0, 1}, {12, 7, 1, 0, 0}, {20, 1, 0, 0, NONE}};
    for (int c = 0; c < 3; c++) {
      for (int k = 0; k < 5; k++) due(8, "coat(" + c + ", " + k + ")", x.coat(c, k), rows[c][k]);
    }
    due(8, "coat(0, 5)", x.coat(0, 5), NONE);
    due(8, "coat(0, -1)", x.coat(0, -1), NONE);
    due(8, "coat(3, 0)", x.coat(3, 0), NONE);
    due(8, "coat(-1, 0)", x.coat(-1, 0), NONE);
    x.put(2, 2);
    for (int k = 0; k < 120; k++) x.pass(0, 2);
    due(8, "lining, 99 at most", x.coat(1, 2), 99);
    due(8, "coat(2, 4)", x.coat(2, 4), 2);
  }

  private static void promise9Man() {
    fresh(LIVERY);
    int[][] rows = {{10, 20, 1, 0, 1}, {12, 30, 0, 0, 1}, {11, 64, NONE, 0, 1}};
    for (int m = 0; m < 3; m++) {
      for (int k = 0; k < 5; k++) due(9, "man(" + m + ", " + k + ")", x.man(m, k), rows[m][k]);
    }
    due(9, "man(0, 5)", x.man(0, 5), NONE);
    due(9, "man(0, -1)", x.man(0, -1), NONE);
    due(9, "man(3, 0)", x.man(3, 0), NONE);
    due(9, "man(-1, 0)", x.man(-1, 0), NONE);
    fresh(HEIR);
    x.years(3);
    int[] gone = {10, 66, NONE, 50, 0};
    for (int k = 0; k < 5; k++) due(9, "man(0, " + k + ") gone", x.man(0, k), gone[k]);
  }

  /** What a sum tells of a man of size 7 and age 9 and a coat of size 5 and pay 3 on its peg. */
  private static void sum(String text, long want) {
    fresh("coat c size 5 pay 3;man m size 7 age 9;warms " + text + ";");
    due(10, "warms(0, 0) by " + text, x.warms(0, 0), want);
  }

  private static void promise10Warms() {
    fresh("coat c size 5 pay 3;coat d size 40 pay 3;man m size 7 age 9;");
    due(10, "warms(0, 0) without a sum", x.warms(0, 0), 8);
    due(10, "warms(0, 1) without a sum", x.warms(0, 1), -23);
    due(10, "warms(1, 0)", x.warms(1, 0), NOTHING);
    due(10, "warms(0, 2)", x.warms(0, 2), NOTHING);
    due(10, "warms(-1, 0)", x.warms(-1, 0), NOTHING);
    due(10, "warms(0, -1)", x.warms(0, -1), NOTHING);
    sum("size*1000+age*100+coat*10+pay", 7953);
    sum("lining*10+year", 0);
    sum("2+3*4", 14);
    sum("(2+3)*4", 20);
    sum("20-3-4", 13);
    sum("100/5/2", 10);
    sum("100/7*7", 98);
    sum("(0-7)/2", -4);
    sum("(0-7)%2", 1);
    sum("7/(0-2)", -4);
    sum("7%(0-2)", -1);
    sum("(0-7)/(0-2)", 3);
    sum("(0-7)%(0-2)", -1);
    sum("(0-8)/2", -4);
    sum("5/0+5%0", 0);
    sum("9999*9999", 1000000);
    sum("0-9999*9999-1", -1000000);
    sum("9999*9999-1", 999999);
    sum("(0-9999)*9999+1", -999999);
    sum("(0-9999)*9999-9999*9999", -1000000);
    sum("min(3,4)+max(3,4)*10", 43);
    sum("if(1<2,11,22)", 11);
    sum("if(1>2,11,22)", 22);
    fresh("coat c size 5 pay 3;man m size 5 age 9;man n size 5 age 9;warms lining*100+year*10+age-8;");
    x.years(2);
    due(10, "warms(0, 0) two years later", x.warms(0, 0), 123);
    fresh(HEIR);
    x.years(2);
    due(10, "of one who is gone", x.warms(0, 0), 10);
    fresh("coat c size 5 pay 3;man m size 5 age 9;fire 100;");
    x.chance(1);
    due(10, "coat(0, 3)", x.coat(0, 3), 1);
    due(10, "of one that is burnt", x.warms(0, 0), 10);
  }

  private static void test(String text, boolean want) {
    sum("if(" + text + ",1,0)", want ? 1 : 0);
  }

  private static void promise10Tests() {
    test("all", true);
    test("not all", false);
    test("not not all", true);
    test("1=1", true);
    test("1=2", false);
    test("not 1=1", false);
    test("not 1<2", false);
    test("not 2>1", false);
    test("not [1=1 and 2=2 or 1=2]", false);
    test("1<1", false);
    test("1>1", false);
    test("1>2 and 1>2 or all", true);
    test("all or all and 1>2", true);
    test("[all or all] and 1>2", false);
    test("not 1>2 and 1>2", false);
    test("not [1>2 and 1>2]", true);
    test("not 1>2 or all", true);
    test("1+1=2 and 2*2=4", true);
    test("if(all,1,0)=1", true);
  }

  private static void promise11Later() {
    fresh(LIVERY);
    due(11, "later(0, 0)", x.later(0, 0), 1);
    due(11, "later(2, 0)", x.later(2, 0), NONE);
    due(11, "later(2, 1)", x.later(2, 1), 2);
    due(11, "later(2, 40)", x.later(2, 40), 2);
    due(11, "later(2, 41)", x.later(2, 41), NONE);
    due(11, "later(2, -1)", x.later(2, -1), NONE);
    due(11, "later(3, 1)", x.later(3, 1), NONE);
    due(11, "later(-1, 1)", x.later(-1, 1), NONE);
    due(11, "has(2), nothing went by", x.has(2), 0);
    fresh(HEIR);
    due(11, "later(0, 1)", x.later(0, 1), 0);
    due(11, "later(0, 2)", x.later(0, 2), NONE);
    due(11, "later(1, 2)", x.later(1, 2), 1);
    // of like ones the first; what warms by nothing, or less, stays on its peg
    fresh("coat a size 9 pay 1;coat b size 11 pay 1;coat c size 20 pay 1;man m size 10 age 1;man n size 10 age 1;man o size 10 age 1;");
    due(11, "later(0, 1)", x.later(0, 1), 0);
    due(11, "later(1, 1)", x.later(1, 1), 1);
    due(11, "later(2, 1)", x.later(2, 1), NONE);
    // the coat of one who leaves is there for the others in the same year, by the sizes of then
    fresh("coat a size 20 pay 1;man m size 8 age 64;man n size 9 age 1;wears m of a;grows size+2;leaves age>64;");
    due(11, "later(1, 1)", x.later(1, 1), 0);
    fresh("coat a size 20 pay 1;man m size 20 age 1;");
    for (int k = 0; k < 24; k++) x.years(40);
    due(11, "has(2)", x.has(2), 960);
    due(11, "later(0, 39)", x.later(0, 39), 0);
    due(11, "later(0, 40)", x.later(0, 40), NONE);
  }

  private static void promise12Purse() {
    fresh(LIVERY);
    due(12, "purse(0, 0)", x.purse(0, 0), 0);
    due(12, "purse(0, 3)", x.purse(0, 3), 21);
    due(12, "purse(2, 40)", x.purse(2, 40), 40);
    due(12, "purse(2, 41)", x.purse(2, 41), NONE);
    due(12, "purse(2, -1)", x.purse(2, -1), NONE);
    due(12, "purse(3, 1)", x.purse(3, 1), NONE);
    due(12, "purse(-1, 1)", x.purse(-1, 1), NONE);
    fresh(HEIR);
    due(12, "purse(0, 2) of one who went", x.purse(0, 2), 50);
    due(12, "purse(1, 40)", x.purse(1, 40), 40);
    fresh("coat a size 10 pay 99;man m size 10 age 1;");
    for (int k = 0; k < 2; k++) x.years(40);
    due(12, "purse(0, 20)", x.purse(0, 20), 9900);
    due(12, "purse(0, 21)", x.purse(0, 21), 9999);
    due(12, "purse(0, 40)", x.purse(0, 40), 9999);
  }

  private static void promise13Goes() {
    fresh(HEIR);
    due(13, "goes(0)", x.goes(0), 1);
    due(13, "goes(1)", x.goes(1), NONE);
    due(13, "goes(2)", x.goes(2), NONE);
    due(13, "goes(-1)", x.goes(-1), NONE);
    x.years(2);
    due(13, "goes(0) of one gone", x.goes(0), NONE);
    x.years(4);
    due(13, "goes(1)", x.goes(1), 39);
    fresh("man m size 1 age 1;man n size 2 age 1;leaves size=1;");
    due(13, "goes(0)", x.goes(0), 0);
    due(13, "goes(1)", x.goes(1), NONE);
    fresh("man m size 1 age 1;leaves year>998;");
    for (int k = 0; k < 24; k++) x.years(40);
    due(13, "goes(0), not beyond year 999", x.goes(0), NONE);
    fresh("man m size 1 age 1;leaves year>997;");
    for (int k = 0; k < 24; k++) x.years(40);
    due(13, "goes(0) in year 998", x.goes(0), 38);
    fresh("coat a size 1 pay 7;man m size 1 age 1;man n size 99 age 1;leaves purse>20 or coated=1 and year=5;");
    due(13, "goes(0) by the purse", x.goes(0), 3);
    due(13, "goes(1)", x.goes(1), NONE);
  }

  private static void promise14Match() {
    fresh(LIVERY);
    due(14, "match(NONE)", x.match(NONE), 21);
    due(14, "match(0)", x.match(0), 0);
    due(14, "match(1)", x.match(1), 1);
    due(14, "match(2)", x.match(2), 2);
    due(14, "match(3)", x.match(3), NONE);
    due(14, "match(-2)", x.match(-2), NONE);
    // of like ones none is first, then the less number
    fresh("coat a size 10 pay 1;coat b size 10 pay 1;man m size 10 age 1;man n size 10 age 1;man o size 10 age 1;");
    due(14, "match(NONE)", x.match(NONE), 20);
    due(14, "match(0)", x.match(0), NONE);
    due(14, "match(1)", x.match(1), 0);
    due(14, "match(2)", x.match(2), 1);
    fresh(HEIR);
    x.years(2);
    due(14, "match(0) of one gone", x.match(0), NONE);
    due(14, "match(1)", x.match(1), 0);
    due(14, "match(NONE)", x.match(NONE), 10);
    fresh("coat a size 10 pay 1;man m size 10 age 1;fire 100;");
    x.chance(1);
    due(14, "match(NONE) of what is burnt", x.match(NONE), 0);
    due(14, "match(0)", x.match(0), NONE);
    fresh("coat a size 20 pay 1;man m size 10 age 1;");
    due(14, "match(0) by 0", x.match(0), NONE);
  }

  private static void promise15Glad() {
    fresh(LIVERY);
    due(15, "glad(0)", x.glad(0), 1);
    due(15, "glad(1)", x.glad(1), 0);
    due(15, "glad(2)", x.glad(2), 1);
    due(15, "glad(3)", x.glad(3), NONE);
    due(15, "glad(-1)", x.glad(-1), NONE);
    x.pass(0, 1);
    due(15, "glad(0) now", x.glad(0), 0);
    due(15, "glad(1) now", x.glad(1), NONE);
    due(15, "glad(2) now", x.glad(2), NONE);
    // one who is as warm as ahead is not glad
    fresh("coat a size 9 pay 1;coat b size 11 pay 1;man m size 10 age 1;man n size 9 age 1;wears m of a;wears n of b;");
    due(15, "glad(0)", x.glad(0), 0);
    fresh("coat a size 30 pay 1;coat b size 10 pay 1;coat c size 20 pay 1;man m size 1 age 1;man n size 10 age 1;man o size 20 age 1;"
        + "wears m of a;wears n of c;wears o of b;");
    due(15, "glad(0)", x.glad(0), 1);
    due(15, "glad(1)", x.glad(1), 1);
    due(15, "glad(2)", x.glad(2), 2);
  }

  private static void promise16Passes() {
    fresh(LIVERY);
    due(16, "passes(0, 0, NONE)", x.passes(0, 0, NONE), 1);
    due(16, "passes(0, 0, 0)", x.passes(0, 0, 0), 1);
    due(16, "passes(0, 0, 1)", x.passes(0, 0, 1), NONE);
    due(16, "passes(0, 0, -2)", x.passes(0, 0, -2), NONE);
    due(16, "passes(0, 1, NONE)", x.passes(0, 1, NONE), 0);
    due(16, "passes(0, 1, 0)", x.passes(0, 1, 0), NONE);
    due(16, "passes(0, 2, NONE)", x.passes(0, 2, NONE), NONE);
    due(16, "passes(2, 0, NONE)", x.passes(2, 0, NONE), NONE);
    due(16, "passes(3, 0, NONE)", x.passes(3, 0, NONE), NONE);
    due(16, "passes(0, 3, NONE)", x.passes(0, 3, NONE), NONE);
    due(16, "passes(-1, 0, NONE)", x.passes(-1, 0, NONE), NONE);
    due(16, "passes(0, -1, NONE)", x.passes(0, -1, NONE), NONE);
    due(16, "nothing was passed", x.coat(0, 2), 1);
    // a coat that does not warm is gladly given away: without one it is 0
    fresh("coat a size 30 pay 1;man m size 10 age 1;man n size 30 age 1;wears m of a;");
    due(16, "passes(1, 0, NONE)", x.passes(1, 0, NONE), 1);
    due(16, "passes(1, 0, 0)", x.passes(1, 0, 0), 1);
    // m can't have b by one change, as n would be colder; by way of o it goes
    fresh("coat a size 10 pay 1;coat b size 20 pay 1;coat c size 30 pay 1;man m size 18 age 1;man n size 27 age 1;man o size 12 age 1;"
        + "wears m of a;wears n of b;wears o of c;");
    due(16, "passes(0, 1, NONE)", x.passes(0, 1, NONE), 2);
    due(16, "passes(0, 1, 0)", x.passes(0, 1, 0), 8 + 2);
    due(16, "passes(0, 1, 1)", x.passes(0, 1, 1), 2);
    // a way of three changes, each along a row of coats
    fresh("coat a size 10 pay 1;coat b size 20 pay 1;coat c size 30 pay 1;coat d size 40 pay 1;"
        + "man m size 1 age 1;man n size 2 age 1;man o size 3 age 1;man p size 4 age 1;wears m of a;wears n of b;wears o of c;wears p of d;"
        + "warms if(size=1,coat,if(coat=size*10 or coat=size*10-10,1,0));");
    due(16, "passes(0, 3, NONE)", x.passes(0, 3, NONE), 3);
    due(16, "passes(0, 3, 0)", x.passes(0, 3, 0), 1);
    due(16, "passes(0, 3, 1)", x.passes(0, 3, 1), 2);
    due(16, "passes(0, 3, 2)", x.passes(0, 3, 2), 3);
    due(16, "passes(0, 3, 3)", x.passes(0, 3, 3), NONE);
    // who has changed has put on: the lining counts
    fresh("coat a size 10 pay 1;coat b size 10 pay 1;man m size 10 age 1;man n size 10 age 1;wears m of a;wears n of b;warms 10-lining;");
    due(16, "passes(0, 1, NONE) as linings wear", x.passes(0, 1, NONE), NONE);
    fresh(HEIR);
    x.years(2);
    due(16, "passes(0, 0, NONE) of one gone", x.passes(0, 0, NONE), NONE);
    // one who is gone hands nothing on, ahead of the others or behind them
    String gone = "man g size 40 age 1;";
    String coats = "coat a size 30 pay 1;coat b size 35 pay 1;";
    String others = "man m size 10 age 1;man t size 30 age 1;wears m of a;wears t of b;leaves size=40;";
    fresh(coats + gone + others);
    due(16, "passes(2, 0, NONE) while he is there", x.passes(2, 0, NONE), 2);
    x.years(1);
    due(16, "passes(2, 0, NONE) when he is gone", x.passes(2, 0, NONE), NONE);
    fresh(coats + others + gone);
    due(16, "passes(1, 0, NONE) while he is there", x.passes(1, 0, NONE), 2);
    x.years(1);
    due(16, "passes(1, 0, NONE) when he is gone", x.passes(1, 0, NONE), NONE);
  }

  private static void promise17Waits() {
    fresh(HEIR);
    due(17, "waits(1, 1)", x.waits(1, 1), 0);
    due(17, "waits(1, 2)", x.waits(1, 2), 1);
    due(17, "waits(1, 20)", x.waits(1, 20), 1);
    due(17, "waits(1, 21)", x.waits(1, 21), NONE);
    due(17, "waits(1, 0)", x.waits(1, 0), NONE);
    due(17, "waits(0, 1)", x.waits(0, 1), NONE);
    due(17, "waits(2, 1)", x.waits(2, 1), NONE);
    due(17, "waits(-1, 1)", x.waits(-1, 1), NONE);
    x.years(2);
    due(17, "waits(0, 1) of one gone", x.waits(0, 1), NONE);
    // of like ones the fewest
    fresh("coat a size 10 pay 0;man m size 10 age 1;");
    due(17, "waits(0, 5)", x.waits(0, 5), 0);
    fresh("man m size 10 age 1;");
    for (int k = 0; k < 24; k++) x.years(40);
    x.years(38);
    due(17, "waits(0, 1)", x.waits(0, 1), 0);
    due(17, "waits(0, 2)", x.waits(0, 2), NONE);
  }

  private static void promise18Called() {
    fresh(LIVERY);
    due(18, "called(20, 0)", x.called(20, 0), 2);
    due(18, "called(29, 0)", x.called(29, 0), 2);
    due(18, "called(30, 0)", x.called(30, 0), NONE);
    due(18, "called(10, 0), that one is worn", x.called(10, 0), NONE);
    due(18, "called(0, 0)", x.called(0, 0), NONE);
    due(18, "called(100, 0)", x.called(100, 0), NONE);
    due(18, "called(20, -1)", x.called(20, -1), NONE);
    due(18, "called(20, 99)", x.called(20, 99), 2);
    due(18, "called(20, 100)", x.called(20, 100), NONE);
    x.hang(0);
    x.hang(1);
    due(18, "called(11, 0)", x.called(11, 0), 0);
    due(18, "called(12, 0)", x.called(12, 0), 1);
    fresh("coat a size 10 pay 1;coat b size 10 pay 9;warms age-50+pay;");
    due(18, "called(1, 49)", x.called(1, 49), 1);
    due(18, "called(99, 41)", x.called(99, 41), NONE);
    due(18, "called(99, 42)", x.called(99, 42), 1);
  }

  private static void promise19See() {
    fresh(LIVERY);
    due(19, "see() of nothing", see(), NONE);
    due(19, "see()", see(0, 0, 0), 1);
    due(19, "see()", see(30, 2, 255, 1, 1, 2), 2);
    due(19, "has(8)", x.has(8), 2);
    due(19, "see() of 31 years", see(31, 0, 0), NONE);
    due(19, "see() of man 3", see(0, 3, 0), NONE);
    due(19, "see() of coat 3", see(0, 0, 3), NONE);
    due(19, "see() of 254", see(0, 0, 254), NONE);
    due(19, "see() of two bytes", see(0, 0), NONE);
    due(19, "see() of four bytes", see(0, 0, 0, 0), NONE);
    due(19, "has(8) stays", x.has(8), 2);
    due(19, "see() of 16 rows", see(new int[48]), 16);
    due(19, "see() of 17 rows", see(new int[51]), NONE);
    due(19, "status(5)", x.status(5), 8);
    due(19, "the tape goes", x.feed(0, 0, 0, 0, 0), 20);
  }

  private static void promise20Had() {
    fresh(LIVERY);
    due(20, "had(0) of all", x.had(0), 1 + 4 + 8);
    due(20, "had(1) of all", x.had(1), 1 + 2 + 8);
    due(20, "had(2) of all", x.had(2), 1 + 8);
    due(20, "had(3)", x.had(3), NONE);
    due(20, "had(-1)", x.had(-1), NONE);
    see(1, 2, 2);
    due(20, "had(0) as the third had gray", x.had(0), 1 + 4);
    see(1, 2, 1);
    due(20, "had(0) as the third had blue", x.had(0), 8);
    see(31, 0, 0);
    due(20, "had(0) by what was not refused", x.had(0), 8);
    see(0, 0, 255, 1, 0, 1);
    due(20, "had(0) of two rows", x.had(0), 1);
    see(0, 0, 255, 0, 0, 1);
    due(20, "had(0) of what can't be", x.had(0), 0);
    x.put(2, 2);
    see(0, 0, 255);
    due(20, "had(0) by now", x.had(0), 1);
    x.undo();
    due(20, "had(0), what was seen stays", x.had(0), 1);
    works(LIVERY);
    due(20, "had(0) of a new works", x.had(0), 13);
    // as told, none put on by that: the lining is as it is
    fresh("coat a size 10 pay 1;coat b size 10 pay 1;man m size 10 age 1;man n size 10 age 1;wears m of a;warms 2-lining;");
    see(0, 0, 1, 1, 1, 0);
    due(20, "had(0), a would warm the other", x.had(0), 4);
    fresh(HEIR);
    x.years(2);
    due(20, "had(0) of one gone", x.had(0), NONE);
    for (int k = 0; k < 24; k++) x.years(40);
    x.years(35);
    due(20, "has(2)", x.has(2), 997);
    x.put(1, 0);
    works("coat a size 10 pay 1;man m size 10 age 1;");
    for (int k = 0; k < 24; k++) x.years(40);
    x.years(38);
    see(1, 0, 0);
    due(20, "had(0) in 998 by 999", x.had(0), 3);
    see(2, 0, 0);
    due(20, "had(0) beyond 999", x.had(0), 0);
    see(2, 0, 255);
    due(20, "had(0) beyond 999, none", x.had(0), 0);
  }

  private static void promise21Tells() {
    fresh(LIVERY);
    due(21, "tells(0, 0)", x.tells(0, 0), 1);
    due(21, "tells(0, 1)", x.tells(0, 1), 0);
    due(21, "tells(0, 2)", x.tells(0, 2), 2);
    due(21, "tells(0, 3)", x.tells(0, 3), NONE);
    due(21, "tells(0, -1)", x.tells(0, -1), NONE);
    due(21, "tells(3, 0)", x.tells(3, 0), NONE);
    due(21, "tells(-1, 0)", x.tells(-1, 0), NONE);
    see(1, 2, 1);
    due(21, "tells(0, 2) of one", x.tells(0, 2), 1);
    see(0, 0, 255, 0, 0, 1);
    due(21, "tells(0, 0) without any left", x.tells(0, 0), NONE);
    due(21, "tells(0, 2) without any left", x.tells(0, 2), NONE);
    // m himself keeps what he has, or takes the first one; the other takes what is left
    fresh("coat p size 10 pay 1;coat q size 10 pay 1;coat r size 10 pay 1;man n size 10 age 1;man m size 10 age 1;wears m of r;");
    due(21, "had(1)", x.had(1), 1 + 2 + 4 + 8);
    // behind a year n has p, or q where m has p; m has q, p, q, r
    due(21, "tells(1, 0)", x.tells(1, 0), 1);
    due(21, "tells(1, 1)", x.tells(1, 1), 1);
    due(21, "tells(1, 2)", x.tells(1, 2), 2);
    // the first year tells nothing, as all have no coat behind it; the second one does
    fresh("coat p size 10 pay 9;coat q size 10 pay 1;man m size 10 age 1;man n size 10 age 1;"
        + "leaves coated=1 and year=0;warms if(year=0,0,if(size=10 and lining=0 and coat=10,if(pay=9,2,1),0));");
    due(21, "had(0)", x.had(0), 7);
    due(21, "tells(0, 0)", x.tells(0, 0), 2);
    due(21, "tells(0, 1)", x.tells(0, 1), 0);
    due(21, "tells(0, 2)", x.tells(0, 2), 2);
    fresh("coat a size 10 pay 1;man m size 10 age 1;");
    for (int k = 0; k < 24; k++) x.years(40);
    x.years(38);
    due(21, "tells(0, 0) in 998", x.tells(0, 0), 1);
    x.years(1);
    due(21, "tells(0, 0) in 999", x.tells(0, 0), NONE);
    due(21, "tells(0, 2) in 999", x.tells(0, 2), NONE);
    fresh(HEIR);
    x.years(2);
    due(21, "tells(0, 0) of one gone", x.tells(0, 0), NONE);
  }

  private static void promise22Years() {
    fresh(LIVERY);
    due(22, "years(0)", x.years(0), NONE);
    due(22, "years(41)", x.years(41), NONE);
    due(22, "years(-1)", x.years(-1), NONE);
    due(22, "status(2)", x.status(2), 3);
    due(22, "years(1)", x.years(1), 1);
    due(22, "years(40)", x.years(40), 0);
    due(22, "has(2)", x.has(2), 41);
    due(22, "has(9)", x.has(9), 2);
    due(22, "man(2, 1)", x.man(2, 1), 99);
    due(22, "man(2, 2)", x.man(2, 2), 2);
    due(22, "man(2, 3)", x.man(2, 3), 41);
    due(22, "man(0, 3)", x.man(0, 3), 287);
    due(22, "coat(2, 2)", x.coat(2, 2), 1);
    due(22, "has(10), no draws", x.has(10), 1);
    due(22, "has(6), no fire", x.has(6), 0);
    for (int k = 0; k < 23; k++) x.years(40);
    due(22, "has(2)", x.has(2), 961);
    due(22, "years(39) beyond 999", x.years(39), NONE);
    due(22, "years(38)", x.years(38), 0);
    due(22, "has(2)", x.has(2), 999);
    due(22, "years(1) beyond 999", x.years(1), NONE);
    // growing is by size, age and year as they are ahead of it; sizes stay in 1 .. 99
    fresh("man a size 98 age 1;man b size 3 age 2;man c size 50 age 98;grows if(age=1,size+2,if(age=2,size-5,size+year+1));");
    x.years(1);
    due(22, "man(0, 0)", x.man(0, 0), 99);
    due(22, "man(1, 0)", x.man(1, 0), 1);
    due(22, "man(2, 0)", x.man(2, 0), 51);
    x.years(1);
    due(22, "man(2, 0)", x.man(2, 0), 53);
    due(22, "man(2, 1)", x.man(2, 1), 99);
    // who is gone does not grow, nor get older
    fresh("man a size 5 age 5;grows size+1;leaves all;");
    x.years(3);
    due(22, "man(0, 0)", x.man(0, 0), 6);
    due(22, "man(0, 1)", x.man(0, 1), 6);
  }

  private static void promise23Chance() {
    // by the seed 1 the draws are 18 (below 50), 0; 26, 0; 16, 0; 68; 52 (worked out apart)
    fresh(LIVERY);
    due(23, "chance(0)", x.chance(0), NONE);
    due(23, "chance(41)", x.chance(41), NONE);
    due(23, "status(2)", x.status(2), 2);
    due(23, "has(10)", x.has(10), 1);
    due(23, "chance(5)", x.chance(5), 1);
    due(23, "has(10)", x.has(10), 486256185);
    due(23, "coat(0, 3)", x.coat(0, 3), 1);
    due(23, "coat(0, 4)", x.coat(0, 4), NONE);
    due(23, "man(1, 2)", x.man(1, 2), 2);
    due(23, "man(1, 3)", x.man(1, 3), 5);
    due(23, "man(2, 2)", x.man(2, 2), NONE);
    due(23, "kept(0, 1)", x.kept(0, 1), 1);
    due(23, "kept(1, 1)", x.kept(1, 1), 0);
    due(23, "has(6)", x.has(6), 1);
    fresh(LIVERY + "fire 100;");
    x.seed(8);
    due(23, "chance(2)", x.chance(2), 2);
    due(23, "coat(0, 3)", x.coat(0, 3), 0);
    due(23, "coat(1, 3)", x.coat(1, 3), 1);
    due(23, "coat(2, 3)", x.coat(2, 3), 1);
    due(23, "chance(4)", x.chance(4), 1);
    due(23, "has(10)", x.has(10), 726025804);
    fresh("coat a size 10 pay 1;man m size 10 age 1;wears m of a;fire 100;");
    due(23, "chance(40), burnt once", x.chance(40), 1);
    due(23, "has(9), one act", x.has(9), 1);
    due(23, "man(0, 2)", x.man(0, 2), NONE);
    due(23, "man(0, 3), no pay in the year of the fire", x.man(0, 3), 0);
    due(23, "coat(0, 2)", x.coat(0, 2), 1);
    due(23, "put(0, 0) of what is burnt", x.put(0, 0), false);
    fresh("coat a size 10 pay 1;man m size 10 age 1;wears m of a;fire 0;");
    due(23, "chance(40) without fire", x.chance(40), 0);
    fresh("man m size 10 age 1;fire 100;");
    due(23, "chance(1) without coats", x.chance(1), 0);
    due(23, "one draw", x.has(10), 1103527590);
    for (int k = 0; k < 24; k++) x.chance(40);
    x.chance(37);
    due(23, "has(2)", x.has(2), 998);
    due(23, "chance(2) beyond 999", x.chance(2), NONE);
    due(23, "chance(1)", x.chance(1), 0);
  }

  private static void promise24Pass() {
    fresh(LIVERY);
    due(24, "pass(0, 0)", x.pass(0, 0), false);
    due(24, "pass(0, 3)", x.pass(0, 3), false);
    due(24, "pass(-1, 0)", x.pass(-1, 0), false);
    due(24, "pass(0, 1)", x.pass(0, 1), true);
    due(24, "man(0, 2)", x.man(0, 2), 0);
    due(24, "man(1, 2)", x.man(1, 2), 1);
    due(24, "coat(0, 2)", x.coat(0, 2), 2);
    due(24, "coat(1, 2)", x.coat(1, 2), 2);
    due(24, "pass(0, 2)", x.pass(0, 2), true);
    due(24, "man(0, 2)", x.man(0, 2), NONE);
    due(24, "man(2, 2)", x.man(2, 2), 0);
    due(24, "coat(0, 2)", x.coat(0, 2), 3);
    due(24, "pass(0, 2) back", x.pass(0, 2), true);
    x.hang(1);
    due(24, "pass(1, 2), neither has one", x.pass(1, 2), false);
    due(24, "status(3)", x.status(3), 4);
    fresh(HEIR);
    x.years(2);
    due(24, "pass(0, 1), one is gone", x.pass(0, 1), false);
    due(24, "pass(1, 0), one is gone", x.pass(1, 0), false);
  }

  private static void promise25Put() {
    fresh(LIVERY);
    due(25, "put(2, 0), one has it", x.put(2, 0), false);
    due(25, "put(0, 2), he has one", x.put(0, 2), false);
    due(25, "put(2, 3)", x.put(2, 3), false);
    due(25, "put(2, -1)", x.put(2, -1), false);
    due(25, "put(3, 2)", x.put(3, 2), false);
    due(25, "put(-1, 2)", x.put(-1, 2), false);
    due(25, "status(3)", x.status(3), 6);
    due(25, "put(2, 2)", x.put(2, 2), true);
    due(25, "man(2, 2)", x.man(2, 2), 2);
    due(25, "coat(2, 2)", x.coat(2, 2), 1);
    due(25, "has(9)", x.has(9), 1);
    fresh(HEIR);
    x.years(2);
    due(25, "put(0, 0) of one gone", x.put(0, 0), false);
  }

  private static void promise26Hang() {
    fresh(LIVERY);
    due(26, "hang(2)", x.hang(2), false);
    due(26, "hang(3)", x.hang(3), false);
    due(26, "hang(-1)", x.hang(-1), false);
    due(26, "hang(0)", x.hang(0), true);
    due(26, "hang(0)", x.hang(0), false);
    due(26, "status(3)", x.status(3), 4);
    due(26, "coat(1, 4)", x.coat(1, 4), NONE);
    due(26, "coat(1, 2)", x.coat(1, 2), 1);
    due(26, "has(5)", x.has(5), 2);
    due(26, "has(9)", x.has(9), 1);
    due(26, "put(0, 1) again", x.put(0, 1), true);
    due(26, "coat(1, 2)", x.coat(1, 2), 2);
    fresh(HEIR);
    x.years(2);
    due(26, "hang(0) of one gone", x.hang(0), false);
  }

  private static void promise27Undo() {
    fresh(LIVERY);
    due(27, "undo()", x.undo(), false);
    due(27, "status(4)", x.status(4), 1);
    x.put(2, 2);
    x.chance(3);
    int seed = x.has(10);
    due(27, "undo()", x.undo(), true);
    due(27, "has(10), but the seed", x.has(10), seed);
    due(27, "has(2)", x.has(2), 0);
    due(27, "has(6)", x.has(6), 0);
    due(27, "has(7)", x.has(7), 0);
    due(27, "man(0, 3)", x.man(0, 3), 0);
    due(27, "man(2, 2)", x.man(2, 2), 2);
    due(27, "undo()", x.undo(), true);
    due(27, "man(2, 2)", x.man(2, 2), NONE);
    due(27, "coat(2, 2)", x.coat(2, 2), 0);
    due(27, "undo()", x.undo(), false);
    for (int k = 0; k < 25; k++) x.years(1);
    due(27, "has(9)", x.has(9), 20);
    for (int k = 0; k < 20; k++) due(27, "undo() " + k, x.undo(), true);
    due(27, "undo() of the 21st", x.undo(), false);
    due(27, "has(2)", x.has(2), 5);
    due(27, "has(7)", x.has(7), 5);
    due(27, "refused ones are no acts", x.pass(0, 0), false);
    due(27, "has(9)", x.has(9), 0);
    // what was kept comes back too
    x.years(40);
    x.years(40);
    due(27, "kept(0, 0)", x.kept(0, 0), 45);
    x.undo();
    due(27, "kept(0, 0)", x.kept(0, 0), 5);
    due(27, "kept(39, 0)", x.kept(39, 0), 44);
    x.undo();
    due(27, "kept(0, 0)", x.kept(0, 0), 0);
    due(27, "kept(5, 0)", x.kept(5, 0), NONE);
  }

  private static void promise28Seed() {
    x = new PegCoats();
    due(28, "seed(0)", x.seed(0), true);
    due(28, "has(10)", x.has(10), 0);
    x.chance(1);
    due(28, "has(10)", x.has(10), 12345);
    due(28, "seed(2147483647)", x.seed(2147483647), true);
    due(28, "has(10)", x.has(10), 2147483647);
    x.chance(1);
    due(28, "has(10)", x.has(10), (1103515245L * 2147483647L + 12345L) % 2147483648L);
    due(28, "seed(-1)", x.seed(-1), false);
    due(28, "seed(min)", x.seed(Integer.MIN_VALUE), false);
    due(28, "status(5)", x.status(5), 2);
    due(28, "has(9), no act", x.has(9), 2);
  }

  private static void promise29Kept() {
    fresh(HEIR);
    due(29, "kept(0, 0)", x.kept(0, 0), NONE);
    x.years(3);
    int[][] rows = {{0, 1, 0}, {1, 0, 1}, {2, 0, 0}};
    for (int k = 0; k < 3; k++) {
      for (int what = 0; what < 3; what++) due(29, "kept(" + k + ", " + what + ")", x.kept(k, what), rows[k][what]);
    }
    due(29, "kept(0, 3)", x.kept(0, 3), NONE);
    due(29, "kept(0, -1)", x.kept(0, -1), NONE);
    due(29, "kept(3, 0)", x.kept(3, 0), NONE);
    due(29, "kept(-1, 0)", x.kept(-1, 0), NONE);
    x.chance(40);
    due(29, "has(7)", x.has(7), 40);
    due(29, "kept(0, 0)", x.kept(0, 0), 3);
    due(29, "kept(39, 0)", x.kept(39, 0), 42);
    due(29, "kept(40, 0)", x.kept(40, 0), NONE);
  }

  private static void promise30Image() {
    x = new PegCoats();
    due(30, "image() of nothing", x.image(), 3);
    due(30, "octet(2)", x.octet(2), check(0, 0));
    // b is burnt by the seed 1 (of two coats the draw is 1), n is gone in the second year
    fresh("coat a size 10 pay 99;coat b size 1 pay 1;man m size 10 age 90;man n size 50 age 64;leaves size=50 and age>65;fire 100;");
    for (int k = 0; k < 7; k++) x.years(40);
    x.seed(1);
    due(30, "chance(1)", x.chance(1), 1);
    int[] due = {1, 25, 0, 1, 1, 0, 10, 99, 0, 39, 15, 1, 50, 66, 255, 0, 0, 0};
    due(30, "image()", x.image(), due.length + 1);
    for (int k = 0; k < due.length; k++) due(30, "octet(" + k + ")", x.octet(k), due[k]);
    due(30, "octet(last)", x.octet(due.length), check(due));
    due(30, "no act", x.has(9), 8);
  }

  private static void promise31Octet() {
    x = new PegCoats();
    due(31, "octet(0) ahead", x.octet(0), NONE);
    fresh(LIVERY);
    x.image();
    int[] due = {0, 0, 0, 1, 0, 1, 0, 0, 10, 20, 1, 0, 0, 1, 12, 30, 0, 0, 0, 1, 11, 64, 255, 0, 0, 1};
    for (int k = 0; k < due.length; k++) due(31, "octet(" + k + ")", x.octet(k), due[k]);
    due(31, "octet(26)", x.octet(26), check(due));
    due(31, "octet(27)", x.octet(27), NONE);
    due(31, "octet(-1)", x.octet(-1), NONE);
    x.years(1);
    due(31, "octet(1) of the latest image()", x.octet(1), 0);
    works("");
    due(31, "octet(8), images stay", x.octet(8), 10);
  }

  private static void onWith(int at, int value, boolean want) {
    int[] bytes = {3, 231, 0, 99, 0, 1, 1, 0, 10, 20, 1, 0, 5, 1, 12, 30, 0, 39, 15, 1, 99, 99, 255, 0, 7, 0};
    if (at >= 0) bytes[at] = value;
    due(32, "on() with " + value + " at " + at, on(bytes), want);
  }

  private static void promise32On() {
    fresh(LIVERY);
    x.seed(5);
    x.years(2);
    see(0, 0, 1);
    onWith(-1, 0, true);
    int[] has = {3, 3, 999, 2, 2, 0, 1, 0, 1, 0, 5};
    for (int k = 0; k < has.length; k++) due(32, "has(" + k + ")", x.has(k), has[k]);
    due(32, "coat(0, 2)", x.coat(0, 2), 99);
    due(32, "coat(2, 3)", x.coat(2, 3), 1);
    due(32, "man(0, 3)", x.man(0, 3), 5);
    due(32, "man(1, 3)", x.man(1, 3), 9999);
    due(32, "man(2, 0)", x.man(2, 0), 99);
    due(32, "man(2, 4)", x.man(2, 4), 0);
    due(32, "the tape goes", x.feed(0, 0, 0, 0, 0), 20);
    x.end(0);
    onWith(1, 232, false);
    onWith(0, 2, true);
    onWith(2, 2, false);
    onWith(3, 100, false);
    onWith(8, 0, false);
    onWith(8, 1, true);
    onWith(8, 100, false);
    onWith(9, 100, false);
    onWith(9, 99, true);
    onWith(10, 3, false);
    onWith(10, 2, false);
    onWith(10, 0, false);
    onWith(10, 255, true);
    onWith(13, 0, false);
    onWith(13, 2, false);
    onWith(18, 16, false);
    onWith(22, 1, false);
    onWith(25, 1, true);
    due(32, "status(5)", x.status(5), 13);
    due(32, "all stays", x.man(2, 4), 1);
    feed(0, 0, 0);
    due(32, "on() of another length", x.on(), false);
    due(32, "on() of nothing", x.on(), false);
    x = new PegCoats();
    feed(0, 7, check(0, 7));
    due(32, "on() without coats and men", x.on(), true);
    due(32, "has(2)", x.has(2), 7);
    feed(0, 7, check(0, 7) + 1);
    due(32, "on() with another last byte", x.on(), false);
  }

  private static void promise33Status() {
    x = new PegCoats();
    for (int k = 0; k < 6; k++) due(33, "status(" + k + ")", x.status(k), 0);
    x.end(1);
    works("?");
    works("?");
    x.years(0);
    x.chance(0);
    x.chance(0);
    x.pass(0, 0);
    x.put(0, 0);
    x.hang(0);
    x.hang(0);
    for (int k = 0; k < 5; k++) x.undo();
    x.seed(-1);
    x.see();
    x.on();
    x.on();
    x.seed(-1);
    x.see();
    for (int k = 0; k < 6; k++) due(33, "status(" + k + ")", x.status(k), k + 1);
    due(33, "status(6)", x.status(6), NONE);
    due(33, "status(-1)", x.status(-1), NONE);
    works(LIVERY);
    due(33, "status(5) stays", x.status(5), 6);
  }
}
