/** What is asked, sentence by sentence: promises 11 to 21, part III of the terms. */
public final class AskEdgesTest extends Dues {
  /** A man who leaves in the 40th year from now, a man who would in the 41st. */
  private static final String FORTY = "coat a size 10 pay 3;coat b size 10 pay 4;man m size 10 age 25;man n size 10 age 24;"
      + "wears m of a;wears n of b;leaves age>64;fire 100;";

  public static void main(String[] args) {
    promise11Later();
    promise12Purse();
    promise13Goes();
    promise14Match();
    promise14LikeOnes();
    promise15Glad();
    promise16Passes();
    promise16Colder();
    promise16Linings();
    promise16FirstRow();
    promise16ThreeAtMost();
    promise17Waits();
    promise18Called();
    promise19See();
    promise20Had();
    promise20Beyond();
    promise21Tells();
    promise21Thirty();
    finish();
  }

  // ---- ahead

  private static void promise11Later() {
    says(11, "The COAT of a MAN behind n YEARS AHEAD (0 .. 40); NONE when he has none");
    fresh(FORTY);
    due("later(0, 0)", x.later(0, 0), 0);
    due("later(0, 1)", x.later(0, 1), 0);
    due("later(0, 39)", x.later(0, 39), 0);
    due("later(0, 40)", x.later(0, 40), NONE);
    due("later(1, 40)", x.later(1, 40), 1);
    says(11, "without DRAWS");
    due("has(10), the seed stays", x.has(10), 1);
    due("has(2), the year stays", x.has(2), 0);
    says(11, "NONE when there is none such, or n can't be");
    for (int n : new int[] {-2, -1, 41, 42}) due("later(1, " + n + ")", x.later(1, n), NONE);
    for (int man : new int[] {-2, -1, 2, 7}) due("later(" + man + ", 0)", x.later(man, 0), NONE);
    for (int far : FAR) {
      due("later(1, " + far + ")", x.later(1, far), NONE);
      due("later(" + far + ", 1)", x.later(far, 1), NONE);
    }
    x.years(40);
    due("later(0, 0) of one gone", x.later(0, 0), NONE);
    due("later(1, 0)", x.later(1, 0), 1);
    due("later(1, 1)", x.later(1, 1), NONE);
    says(11, "not beyond YEAR 999");
    fresh("coat a size 10 pay 3;man m size 10 age 25;");
    int[][] most = {{0, 40}, {958, 40}, {959, 40}, {960, 39}, {998, 1}, {999, 0}};
    for (int[] row : most) {
      inYear(row[0]);
      due("later(0, " + row[1] + ") in " + row[0], x.later(0, row[1]), row[1] == 0 ? NONE : 0);
      due("later(0, " + (row[1] + 1) + ") in " + row[0], x.later(0, row[1] + 1), NONE);
    }
    x.put(0, 0);
    due("later(0, 0) in 999", x.later(0, 0), 0);
    due("later(0, 1) in 999", x.later(0, 1), NONE);
  }

  private static void promise12Purse() {
    says(12, "The purse of a MAN behind n YEARS AHEAD (0 .. 40)");
    fresh(FORTY);
    due("purse(0, 0)", x.purse(0, 0), 0);
    due("purse(0, 1)", x.purse(0, 1), 3);
    due("purse(0, 39)", x.purse(0, 39), 117);
    due("purse(0, 40), he went ahead of the pay", x.purse(0, 40), 117);
    due("purse(1, 40)", x.purse(1, 40), 160);
    says(12, "NONE when there is none such, or n can't be");
    for (int n : new int[] {-2, -1, 41, 42}) due("purse(1, " + n + ")", x.purse(1, n), NONE);
    for (int man : new int[] {-2, -1, 2, 7}) due("purse(" + man + ", 0)", x.purse(man, 0), NONE);
    for (int far : FAR) {
      due("purse(1, " + far + ")", x.purse(1, far), NONE);
      due("purse(" + far + ", 1)", x.purse(far, 1), NONE);
    }
    x.years(40);
    due("purse(0, 40) of one gone", x.purse(0, 40), 117);
    says(12, "not beyond YEAR 999");
    int[][] most = {{959, 40}, {960, 39}, {998, 1}, {999, 0}};
    for (int[] row : most) {
      inYear(row[0]);
      due("purse(0, " + row[1] + ") in " + row[0], x.purse(0, row[1]), 117);
      due("purse(0, " + (row[1] + 1) + ") in " + row[0], x.purse(0, row[1] + 1), NONE);
    }
    says(12, "9999 at most");
    fresh("coat a size 10 pay 3;man m size 10 age 25;wears m of a;");
    for (int purse : new int[] {9995, 9996, 9997, 9998, 9999}) {
      withTwo(manAt(0) + 3, purse);
      due("purse(0, 0) of " + purse, x.purse(0, 0), purse);
      due("purse(0, 1) of " + purse, x.purse(0, 1), Math.min(9999, purse + 3));
      due("purse(0, 2) of " + purse, x.purse(0, 2), 9999);
    }
  }

  private static void promise13Goes() {
    says(13, "The first YEAR AHEAD in which a MAN goes (0 the next one, 39 at most); NONE when he does not");
    fresh(FORTY);
    due("goes(0)", x.goes(0), 39);
    due("goes(1)", x.goes(1), NONE);
    x.years(1);
    due("goes(0)", x.goes(0), 38);
    due("goes(1)", x.goes(1), 39);
    x.years(38);
    due("goes(0)", x.goes(0), 0);
    due("goes(1)", x.goes(1), 1);
    says(13, "NONE when he is not there, or there is none such");
    x.years(1);
    due("goes(0) of one gone", x.goes(0), NONE);
    for (int man : new int[] {-2, -1, 2, 7}) due("goes(" + man + ")", x.goes(man), NONE);
    for (int far : FAR) due("goes(" + far + ")", x.goes(far), NONE);
    fresh("man m size 10 age 25;leaves all;");
    due("goes(0) when all leave", x.goes(0), 0);
    says(13, "not beyond YEAR 999");
    inYear(998);
    due("goes(0) in 998", x.goes(0), 0);
    inYear(999);
    due("goes(0) in 999", x.goes(0), NONE);
    fresh("man m size 10 age 25;man n size 11 age 25;leaves size=10 and year=998 or size=11 and year>998;");
    inYear(960);
    due("goes(0) in 960", x.goes(0), 38);
    due("goes(1) in 960", x.goes(1), NONE);
    inYear(959);
    due("goes(0) in 959", x.goes(0), 39);
    inYear(958);
    due("goes(0) in 958", x.goes(0), NONE);
  }

  // ---- coats for men

  private static void matchIs(int sum, int... coats) {
    due("match(NONE)", x.match(NONE), sum);
    for (int m = 0; m < coats.length; m++) due("match(" + m + ")", x.match(m), coats[m]);
  }

  private static void promise14Match() {
    says(14, "the sum (man NONE), the COAT of a MAN (NONE)");
    fresh(FULL);
    matchIs(70, 0, 1, 2, 3, 4, 5, 6);
    fresh(FULL + "warms 1000*1000;");
    matchIs(7000000, 0, 1, 2, 3, 4, 5, 6);
    fresh(FULL + "warms coat;");
    matchIs(12 + 13 + 14 + 15 + 16 + 17 + 18, 1, 2, 3, 4, 5, 6, 7);
    says(14, "NONE when there is none such");
    for (int man : new int[] {-3, -2, 7, 8}) due("match(" + man + ")", x.match(man), NONE);
    for (int far : FAR) due("match(" + far + ")", x.match(far), NONE);
    says(14, "of the greatest sum");
    fresh("coat a size 1 pay 1;coat b size 2 pay 1;man m size 1 age 1;man n size 2 age 1;warms if(size=1,if(coat=1,10,9),if(coat=1,9,1));");
    matchIs(18, 1, 0);
    says(14, "unlike ones");
    fresh("coat a size 10 pay 1;man m size 9 age 1;man n size 10 age 1;man o size 11 age 1;");
    matchIs(10, NONE, 0, NONE);
    says(14, "each by which he is WARMED above 0");
    fresh("coat a size 10 pay 1;coat b size 30 pay 1;man m size 20 age 1;man n size 39 age 1;");
    matchIs(1, NONE, 1);
    fresh("coat a size 10 pay 1;man m size 20 age 1;man n size 90 age 1;");
    matchIs(0, NONE, NONE);
    fresh("man m size 20 age 1;");
    matchIs(0, NONE);
    fresh("coat a size 10 pay 1;");
    matchIs(0);
    says(14, "a COAT that is not BURNT, or none, for each MAN who is there");
    busy();
    // red is burnt, di is gone: blue warms al 8, bo 10, cy 9; gray warms al 0, bo 2, cy 1
    matchIs(11, NONE, 1, 2, NONE);
    says(14, "as it is now: asked again when one is burnt, gone, of another works");
    fresh("coat a size 10 pay 1;coat b size 12 pay 1;man m size 10 age 1;man n size 12 age 64;leaves age=65;");
    matchIs(20, 0, 1);
    with(coatAt(0), 1);
    matchIs(10, NONE, 1);
    x.years(1);
    matchIs(8, 1, NONE);
    works(FULL);
    matchIs(70, 0, 1, 2, 3, 4, 5, 6);
    works("coat a size 10 pay 1;coat b size 12 pay 1;man m size 10 age 1;man n size 10 age 1;");
    matchIs(18, 0, 1);
    works("coat a size 10 pay 1;");
    matchIs(0);
    fresh("coat a size 10 pay 1;coat b size 12 pay 1;man m size 10 age 1;man n size 12 age 1;wears m of b;wears n of a;");
    says(14, "of those that others have, too");
    matchIs(20, 0, 1);
  }

  private static void promise14LikeOnes() {
    says(14, "of like ones the first row (MAN by MAN none, then COATS by numbers)");
    fresh("coat a size 10 pay 1;man m size 10 age 1;man n size 10 age 1;man o size 10 age 1;");
    matchIs(10, NONE, NONE, 0);
    fresh("coat a size 10 pay 1;coat b size 10 pay 1;coat c size 10 pay 1;man m size 10 age 1;");
    matchIs(10, 0);
    fresh("coat a size 10 pay 1;coat b size 10 pay 1;man m size 10 age 1;man n size 10 age 1;");
    matchIs(20, 0, 1);
    // (0, 1) is 5 and 7, (1, 0) is 6 and 6
    fresh("coat a size 1 pay 1;coat b size 2 pay 1;man m size 1 age 1;man n size 2 age 1;warms if(size=1,if(coat=1,5,6),if(coat=1,6,7));");
    matchIs(12, 0, 1);
    // none for the first, 1 for the second, 0 for the third; a 0 for the first would do as well
    fresh("coat a size 10 pay 1;coat b size 20 pay 1;man m size 10 age 1;man n size 20 age 1;man o size 10 age 1;");
    matchIs(20, NONE, 1, 0);
    // the first man has none although the others then come to higher numbers
    fresh("coat a size 1 pay 1;coat b size 2 pay 1;man m size 1 age 1;man n size 2 age 1;warms if(size=1,if(coat=1,4,0),if(coat=1,3,7));");
    matchIs(11, 0, 1);
    fresh("coat a size 1 pay 1;coat b size 2 pay 1;man m size 1 age 1;man n size 2 age 1;man o size 3 age 1;"
        + "warms if(size=1,if(coat=1,4,0),if(size=2,if(coat=1,4,4),if(coat=1,0,4)));");
    matchIs(8, NONE, 0, 1);
  }

  private static void gladIs(int pairs, int one, int other) {
    due("glad(0)", x.glad(0), pairs);
    due("glad(1)", x.glad(1), one);
    due("glad(2)", x.glad(2), other);
  }

  private static void promise15Glad() {
    says(15, "how many pairs (what 0), the first pair: the one of the less number (1; NONE without), the other (2)");
    String coats = "coat a size 10 pay 1;coat b size 20 pay 1;coat c size 30 pay 1;coat d size 40 pay 1;";
    String men = "man k size 10 age 1;man l size 20 age 1;man m size 30 age 1;man n size 40 age 1;";
    fresh(coats + men + "wears k of d;wears l of c;wears m of b;wears n of a;");
    gladIs(2, 0, 3);
    says(15, "NONE for others");
    for (int what : new int[] {-2, -1, 3, 4}) due("glad(" + what + ")", x.glad(what), NONE);
    for (int far : FAR) due("glad(" + far + ")", x.glad(far), NONE);
    says(15, "how many pairs, the first pair, as it is now");
    x.pass(0, 3);
    gladIs(1, 1, 2);
    x.pass(2, 1);
    gladIs(0, NONE, NONE);
    StringBuilder all = new StringBuilder(FULL);
    for (int k = 0; k < 7; k++) all.append("wears ").append((char) ('k' + k)).append(" of ").append((char) ('a' + k)).append(';');
    fresh(all + "warms if(coat=size,0,1);");
    gladIs(21, 0, 1);
    says(15, "each of whom would be WARMED more by the other's");
    int[][] rows = {{2, 1, 1, 2, 0}, {1, 2, 2, 1, 1}, {1, 1, 2, 1, 0}, {1, 2, 1, 1, 0}, {1, 1, 1, 1, 0}, {0, 1, 1, 0, 1}};
    for (int[] row : rows) {
      fresh("coat a size 1 pay 1;coat b size 2 pay 1;man m size 1 age 1;man n size 2 age 1;wears m of a;wears n of b;warms if(size=1,if(coat=1,"
          + row[0] + "," + row[1] + "),if(coat=1," + row[2] + "," + row[3] + "));");
      gladIs(row[4], row[4] == 1 ? 0 : NONE, row[4] == 1 ? 1 : NONE);
    }
    says(15, "GLAD are two MEN who are there and have COATS");
    fresh("coat a size 30 pay 1;man m size 10 age 1;man n size 30 age 1;wears m of a;");
    gladIs(0, NONE, NONE);
    fresh("coat a size 30 pay 1;man m size 30 age 1;man n size 10 age 1;wears n of a;");
    gladIs(0, NONE, NONE);
    fresh("coat a size 10 pay 1;coat b size 20 pay 1;man m size 20 age 9;man n size 10 age 1;wears m of a;wears n of b;leaves age=10;");
    gladIs(1, 0, 1);
    x.years(1);
    gladIs(0, NONE, NONE);
  }

  private static void passesAre(int man, int coat, int... pairs) {
    due("passes(" + man + ", " + coat + ", NONE)", x.passes(man, coat, NONE), pairs.length);
    for (int k = 0; k < pairs.length; k++) due("passes(" + man + ", " + coat + ", " + k + ")", x.passes(man, coat, k), pairs[k]);
    due("passes(" + man + ", " + coat + ", " + pairs.length + ")", x.passes(man, coat, pairs.length), NONE);
  }

  private static void noPasses(int man, int coat) {
    for (int k = -1; k < 4; k++) due("passes(" + man + ", " + coat + ", " + k + ")", x.passes(man, coat, k), NONE);
  }

  private static void promise16Passes() {
    says(16, "how many (k NONE; 0 if he has it), the k-th: 8 times the less number and the other one");
    fresh(LIVERY);
    passesAre(0, 1);
    passesAre(1, 0);
    passesAre(0, 0, 1);
    passesAre(1, 1, 1);
    StringBuilder all = new StringBuilder(FULL);
    for (int k = 0; k < 7; k++) all.append("wears ").append((char) ('k' + k)).append(" of ").append((char) ('a' + k)).append(';');
    fresh(all + "warms 1;");
    passesAre(6, 5, 8 * 5 + 6);
    passesAre(5, 6, 8 * 5 + 6);
    passesAre(0, 6, 6);
    passesAre(6, 0, 6);
    says(16, "NONE without, when there are none such");
    noPasses(0, 7);
    works(all + "warms if(coat=size,1,0);");
    noPasses(0, 6);
    noPasses(6, 0);
    works(all + "warms 1;");
    for (int none : new int[] {-2, -1, 8}) {
      noPasses(0, none);
      noPasses(none, 0);
    }
    noPasses(7, 0);
    for (int far : FAR) {
      noPasses(far, 0);
      noPasses(0, far);
      due("passes(0, 1, " + far + ")", x.passes(0, 1, far), NONE);
    }
    for (int k : new int[] {-3, -2, 1, 2, 3, 4}) due("passes(0, 1, " + k + ")", x.passes(0, 1, k), NONE);
    says(16, "or he is not there");
    busy();
    noPasses(3, 1);
    noPasses(3, 0);
    says(16, "NONE without: a COAT that nobody has comes by no change");
    noPasses(0, 0);
    noPasses(0, 2);
    noPasses(1, 2);
    says(16, "nothing is passed by asking");
    due("coat(1, 2)", x.coat(1, 2), 2);
    due("coat(1, 4)", x.coat(1, 4), 1);
  }

  private static void promise16Colder() {
    says(16, "none of whom is WARMED less by it than ahead (without a COAT: 0)");
    // who gives a of size 20 away has been warmed by 0, 1, -1; who gets it will be by 0, -1, 1
    int[][] rows = {{10, 30, 1}, {11, 30, 0}, {9, 30, 1}, {10, 31, 0}, {10, 29, 1}, {11, 29, 0}, {9, 31, 0}};
    for (int[] row : rows) {
      fresh("coat a size 20 pay 1;man m size " + row[0] + " age 1;man n size " + row[1] + " age 1;wears m of a;");
      if (row[2] == 1) passesAre(1, 0, 1); else noPasses(1, 0);
      fresh("coat a size 20 pay 1;man m size " + row[1] + " age 1;man n size " + row[0] + " age 1;wears n of a;");
      if (row[2] == 1) passesAre(0, 0, 1); else noPasses(0, 0);
    }
    // m and n change a and b: what each is warmed by ahead and then
    int[][] both = {{5, 5, 5, 5, 1}, {5, 6, 5, 5, 1}, {5, 4, 5, 5, 0}, {5, 5, 5, 4, 0}, {5, 5, 4, 5, 1}, {5, 9, 5, 4, 0}, {0, 0, 0, 0, 1}};
    for (int[] row : both) {
      fresh("coat a size 1 pay 1;coat b size 2 pay 1;man m size 1 age 1;man n size 2 age 1;wears m of a;wears n of b;warms if(size=1,if(coat=1,"
          + row[0] + "," + row[1] + "),if(coat=2," + row[2] + "," + row[3] + "));");
      if (row[4] == 1) passesAre(0, 1, 1); else noPasses(0, 1);
    }
    says(16, "whoever has a COAT that he had not has put it on");
    fresh("coat a size 1 pay 1;coat b size 1 pay 1;man m size 1 age 1;man n size 1 age 1;wears m of a;wears n of b;warms 5-lining;");
    noPasses(0, 1);
    fresh("coat a size 1 pay 1;coat b size 1 pay 1;man m size 1 age 1;man n size 1 age 1;wears m of a;wears n of b;warms 5-max(lining,2);");
    passesAre(0, 1, 1);
    fresh("coat a size 1 pay 1;coat b size 1 pay 1;man m size 1 age 1;man n size 1 age 1;wears m of a;wears n of b;warms if(lining=2,5,4);");
    passesAre(0, 1, 1);
    says(16, "LINING 99 at most");
    with(coatAt(0) + 1, 99);
    with(coatAt(1) + 1, 99);
    passesAre(0, 1, 1);
  }

  private static void promise16Linings() {
    says(16, "WARMED less by it than ahead: the COAT that he has by it as he has put it on, the other one as it was");
    String two = "coat a size 10 pay 1;coat b size 20 pay 1;man m size 1 age 1;man n size 2 age 1;wears m of a;wears n of b;warms ";
    for (int size = 1; size <= 2; size++) {
      // the one of that size minds that a lining wears, the other one does not
      fresh(two + "if(size=" + size + ",5-lining,5);");
      noPasses(0, 1);
      noPasses(1, 0);
      // he likes a coat that two have put on, and goes by what his own is now, not by what it will be for the other one
      fresh(two + "if(size=" + size + ",if(coat=" + 10 * size + " and lining=2,9,5),5);");
      passesAre(0, 1, 1);
      passesAre(1, 0, 1);
      fresh(two + "if(size=" + size + ",if(lining=2,5,4),5);");
      passesAre(0, 1, 1);
      passesAre(1, 0, 1);
      fresh(two + "if(size=" + size + ",if(lining=2,4,5),5);");
      noPasses(0, 1);
      noPasses(1, 0);
    }
    says(16, "the LININGS grow from change to change");
    // m has 9 - 7 + lining by a, 5 by c: a must have been put on twice more, once by l and once by him
    fresh("coat a size 10 pay 1;coat b size 20 pay 1;coat c size 12 pay 1;man k size 12 age 1;man l size 19 age 1;man m size 17 age 1;"
        + "wears k of b;wears l of a;wears m of c;warms 9-max(size-coat,coat-size)+lining;");
    passesAre(2, 0, 1, 2);
    passesAre(0, 2, 2);
    says(16, "a change that was tried and led nowhere leaves no LINING behind");
    // m takes b as its second wearer, not as its third one: k must not have had it ahead, though that is tried first
    four("size=3 and [coat=10 or coat=40 or coat=20 and lining>2]");
    passesAre(0, 2, 8 + 2, 1);
    x.pass(1, 3);
    x.pass(1, 3);
    due("coat(1, 2)", x.coat(1, 2), 3);
    noPasses(0, 2);
    says(16, "changes of COATS of two MEN who are there");
    // t would have a by way of g, who takes it and hands it on
    String coats = "coat a size 30 pay 1;coat b size 35 pay 1;";
    String gone = "man g size 40 age 1;";
    String others = "man m size 10 age 1;man t size 30 age 1;wears m of a;wears t of b;leaves size=40;";
    fresh(coats + gone + others);
    passesAre(2, 0, 1, 2);
    x.years(1);
    noPasses(2, 0);
    fresh(coats + others + gone);
    passesAre(1, 0, 2, 8 + 2);
    x.years(1);
    noPasses(1, 0);
  }

  /** Four men with a coat each; told are those (man, coat) by which a man is warmed 0, all others warm by 1. */
  private static void four(String cold) {
    fresh("coat a size 10 pay 1;coat b size 20 pay 1;coat c size 30 pay 1;coat d size 40 pay 1;"
        + "man k size 1 age 1;man l size 2 age 1;man m size 3 age 1;man n size 4 age 1;wears k of a;wears l of b;wears m of c;wears n of d;"
        + "warms if(" + cold + ",0,1);");
  }

  private static void promise16FirstRow() {
    says(16, "the fewest, of like ones the first row (pairs by the less number, then by the other one)");
    String mNotA = "size=3 and coat=10";
    String lNotA = " or size=2 and coat=10";
    String kNotD = " or size=1 and coat=40";
    four("not all");
    passesAre(0, 2, 2);
    four(mNotA);
    passesAre(0, 2, 1, 2);
    four(mNotA + lNotA);
    passesAre(0, 2, 3, 2);
    four(mNotA + lNotA + kNotD);
    passesAre(0, 2, 8 * 2 + 3, 3);
    // k and l alone may have a, m nothing but c or d: by way of n
    four(mNotA + " or size=3 and coat=20 or size=4 and coat=10 or size=1 and coat=40");
    passesAre(0, 2, 1, 8 * 2 + 3, 3);
  }

  private static void promise16ThreeAtMost() {
    says(16, "3 at most");
    // each but the first has but his own coat or the one ahead of it
    String row = "coat a size 10 pay 1;coat b size 20 pay 1;coat c size 30 pay 1;coat d size 40 pay 1;coat e size 50 pay 1;"
        + "man k size 1 age 1;man l size 2 age 1;man m size 3 age 1;man n size 4 age 1;man o size 5 age 1;"
        + "wears k of a;wears l of b;wears m of c;wears n of d;wears o of e;"
        + "warms if(size=1,coat,if(coat=size*10 or coat=size*10-10,1,0));";
    fresh(row);
    passesAre(0, 1, 1);
    passesAre(0, 2, 1, 2);
    passesAre(0, 3, 1, 2, 3);
    noPasses(0, 4);
    x.pass(0, 1);
    passesAre(0, 4, 2, 3, 4);
  }

  private static void promise17Waits() {
    says(17, "how many of the next n, by which his purse is greatest behind n YEARS; of like ones the fewest");
    // high is free in the 20th year from now; low pays 1 a year from now on
    String[] pays = {"19", "20", "21", "99"};
    int[] best = {0, 0, 19, 19};
    for (int k = 0; k < pays.length; k++) {
      fresh("coat high size 10 pay " + pays[k] + ";coat low size 10 pay 1;man old size 10 age 46;man new size 10 age 20;wears old of high;leaves age>65;");
      due("waits(1, 20) for " + pays[k], x.waits(1, 20), best[k]);
      due("waits(1, 19) for " + pays[k], x.waits(1, 19), 0);
      due("waits(1, 1) for " + pays[k], x.waits(1, 1), 0);
    }
    x.years(1);
    due("he has low now", x.man(1, 2), 1);
    due("waits(1, 19) of one who has a coat", x.waits(1, 19), NONE);
    x.hang(1);
    due("waits(1, 18)", x.waits(1, 18), 0);
    due("waits(1, 19)", x.waits(1, 19), 18);
    due("waits(1, 20)", x.waits(1, 20), 18);
    says(17, "n YEARS AHEAD (1 .. 20); NONE when n can't be");
    for (int n : new int[] {-2, -1, 0, 21, 22}) due("waits(1, " + n + ")", x.waits(1, n), NONE);
    for (int far : FAR) due("waits(1, " + far + ")", x.waits(1, far), NONE);
    says(17, "NONE when a MAN has a COAT, is not there, there is none such");
    due("waits(0, 1)", x.waits(0, 1), NONE);
    for (int man : new int[] {-2, -1, 2, 7}) due("waits(" + man + ", 1)", x.waits(man, 1), NONE);
    for (int far : FAR) due("waits(" + far + ", 1)", x.waits(far, 1), NONE);
    busy();
    due("waits(3, 1) of one gone", x.waits(3, 1), NONE);
    due("waits(0, 1)", x.waits(0, 1), 0);
    says(17, "not beyond YEAR 999");
    int[][] most = {{979, 20}, {980, 19}, {998, 1}, {999, 0}};
    for (int[] row : most) {
      inYear(row[0]);
      if (row[1] > 0) due("waits(0, " + row[1] + ") in " + row[0], x.waits(0, row[1]), 0);
      due("waits(0, " + (row[1] + 1) + ") in " + row[0], x.waits(0, row[1] + 1), NONE);
    }
    says(17, "YEARS in which a MAN puts on none: others do");
    // while he waits the other one takes low, and then he comes to high, which is free in the second year
    fresh("coat high size 10 pay 9;coat low size 10 pay 8;man old size 10 age 64;man new size 10 age 20;man more size 10 age 20;wears old of high;leaves age>65;");
    due("waits(1, 2)", x.waits(1, 2), 0);
    due("waits(2, 2), high is there for him when new has low", x.waits(2, 2), 0);
    fresh("coat high size 10 pay 9;coat low size 10 pay 4;man old size 10 age 64;man new size 10 age 20;man more size 10 age 20;wears old of high;leaves age>65;");
    due("waits(1, 2)", x.waits(1, 2), 1);
  }

  private static void promise18Called() {
    says(18, "of a size (1 .. 99), an age (0 .. 99); NONE when these can't be");
    fresh("coat a size 50 pay 1;warms 1;");
    for (int size : new int[] {1, 2, 98, 99}) due("called(" + size + ", 0)", x.called(size, 0), 0);
    for (int age : new int[] {0, 1, 98, 99}) due("called(1, " + age + ")", x.called(1, age), 0);
    for (int size : new int[] {-1, 0, 100, 101}) due("called(" + size + ", 0)", x.called(size, 0), NONE);
    for (int age : new int[] {-2, -1, 100, 101}) due("called(1, " + age + ")", x.called(1, age), NONE);
    for (int far : FAR) {
      due("called(" + far + ", 1)", x.called(far, 1), NONE);
      due("called(1, " + far + ")", x.called(1, far), NONE);
    }
    says(18, "that would WARM one new most, if that is above 0; of like ones the first");
    fresh("coat a size 10 pay 1;coat b size 30 pay 1;coat c size 50 pay 1;");
    int[][] rows = {{1, 0}, {10, 0}, {19, 0}, {20, NONE}, {21, 1}, {30, 1}, {39, 1}, {40, NONE}, {41, 2}, {59, 2}, {60, NONE}, {99, NONE}};
    for (int[] row : rows) due("called(" + row[0] + ", 0)", x.called(row[0], 0), row[1]);
    fresh("coat a size 10 pay 1;coat b size 12 pay 1;coat c size 10 pay 1;");
    due("called(10, 0) of like ones", x.called(10, 0), 0);
    due("called(11, 0) of like ones", x.called(11, 0), 0);
    due("called(12, 0)", x.called(12, 0), 1);
    fresh("coat a size 1 pay 1;warms age-50;");
    due("called(1, 50)", x.called(1, 50), NONE);
    due("called(1, 51)", x.called(1, 51), 0);
    says(18, "The COAT on its peg");
    busy();
    due("called(12, 0)", x.called(12, 0), 2);
    due("called(10, 0)", x.called(10, 0), NONE);
    x.put(0, 2);
    due("called(12, 0)", x.called(12, 0), NONE);
    says(18, "by the YEAR and the LININGS of now");
    fresh("coat a size 10 pay 1;coat b size 10 pay 1;man m size 10 age 1;warms year*10-lining;");
    due("called(10, 1)", x.called(10, 1), NONE);
    x.put(0, 0);
    x.hang(0);
    inYear(1);
    due("called(10, 1)", x.called(10, 1), 1);
  }

  // ---- who had it

  private static void refusedSee(String what, int... bytes) {
    refusedTape(5, "see() of " + what, () -> { busy(); feed(bytes); }, () -> x.see(), NONE);
  }

  private static void promise19See() {
    says(19, "1 to 16 rows of three bytes: how many rows");
    busy();
    for (int n = 1; n <= 16; n++) due("see() of " + n + " rows", see(new int[3 * n]), n);
    says(19, "YEARS AHEAD (0 .. 30), a MAN, the COAT that he has behind these (255: none)");
    for (int[] row : new int[][] {{0, 0, 0}, {30, 0, 0}, {0, 3, 0}, {0, 0, 2}, {0, 0, 255}, {30, 3, 255}}) due("see()", see(row), 1);
    says(19, "NONE, refused (5), when it is none such");
    refusedSee("nothing");
    refusedSee("17 rows", new int[51]);
    refusedSee("1600 bytes", new int[1600]);
    for (int n : new int[] {1, 2, 4, 5, 47, 49}) refusedSee(n + " bytes", new int[n]);
    for (int years : new int[] {31, 32, 128, 255}) refusedSee(years + " years", years, 0, 0);
    for (int man : new int[] {4, 5, 7, 255}) refusedSee("man " + man, 0, man, 0);
    for (int coat : new int[] {3, 4, 8, 254}) refusedSee("coat " + coat, 0, 0, coat);
    for (int k = 1; k < 16; k += 7) {
      for (int place = 0; place < 3; place++) {
        int[] rows = new int[48];
        rows[3 * k + place] = new int[] {31, 4, 3}[place];
        refusedSee("byte " + place + " of row " + k, rows);
      }
    }
    fresh(FULL);
    due("see() of the last ones", see(30, 6, 7), 1);
    due("see() beyond the last man", see(30, 7, 7), NONE);
    due("see() beyond the last coat", see(30, 6, 8), NONE);
    x = new PegCoats();
    due("see() without men", see(0, 0, 255), NONE);
    says(19, "The tape (it goes)");
    fresh(LIVERY);
    see(0, 0, 0);
    due("feed()", x.feed(0, 0, 0, 0, 0), 20);
    x.see();
    due("feed() behind a refused one", x.feed(0, 0, 0, 0, 0), 20);
  }

  private static void promise20Had() {
    says(20, "bit 0 none, bit 1 + k the COAT of number k; HAD are the COATS (his own, or on their pegs), or none; all, if there was none");
    fresh(FULL + "wears k of h;wears l of a;");
    due("had(0)", x.had(0), 509);
    due("had(1)", x.had(1), 255);
    due("had(6)", x.had(6), 253);
    busy();
    works(LIVERY + "man di size 50 age 90;leaves age>90;");
    due("had(3) of one in his last year", x.had(3), 1 + 8);
    busy();
    see(0, 1, 1);
    due("had(0): gray, not what is burnt or on another", x.had(0), 1 + 8);
    see(0, 0, 255);
    due("had(1): his own and gray", x.had(1), 1 + 4 + 8);
    says(20, "so that all is so");
    see(0, 0, 255);
    due("had(0), seen with none now", x.had(0), 1);
    see(0, 0, 2);
    due("had(0), seen with gray now", x.had(0), 8);
    see(0, 0, 1);
    due("had(0), seen with another's", x.had(0), 0);
    see(0, 0, 2, 0, 0, 255);
    due("had(0), seen with both", x.had(0), 0);
    see(0, 1, 1, 0, 0, 2, 1, 2, 255);
    due("had(0) of three rows", x.had(0), 8);
    see(0, 1, 1, 0, 3, 255, 1, 2, 2);
    due("had(0) of three rows, the last of which tells", x.had(0), 1);
    see(0, 1, 1, 0, 3, 255, 1, 2, 255);
    due("had(0) of three rows, the last of which tells", x.had(0), 8);
    see(0, 1, 1, 0, 3, 255, 0, 2, 2);
    due("had(0) of three rows, the last of which is not so", x.had(0), 0);
    see(0, 3, 255);
    due("had(0), one gone has none", x.had(0), 9);
    see(30, 3, 2);
    due("had(0), one gone has one", x.had(0), 0);
    see(1, 2, 2);
    due("had(0), cy takes gray if it is there", x.had(0), 1);
    see(1, 2, 255);
    due("had(0), cy takes none if it is not", x.had(0), 8);
    says(20, "NONE when there is none such");
    due("had(3) of one gone", x.had(3), NONE);
    for (int man : new int[] {-2, -1, 4, 7}) due("had(" + man + ")", x.had(man), NONE);
    for (int far : FAR) due("had(" + far + ")", x.had(far), NONE);
    says(20, "as told, none put on by that");
    fresh("coat a size 10 pay 1;man m size 10 age 1;man n size 10 age 1;warms 1-lining;");
    see(0, 0, 0, 1, 0, 0);
    due("had(0)", x.had(0), 2);
    due("coat(0, 2)", x.coat(0, 2), 0);
    due("man(0, 2)", x.man(0, 2), NONE);
    // m has a and lets it hang: n takes it, as its lining is still 1
    fresh("coat a size 10 pay 1;man m size 50 age 1;man n size 10 age 1;wears m of a;warms if(size=10,2-lining,0);");
    see(1, 1, 0);
    due("had(0)", x.had(0), 1);
  }

  private static void promise20Beyond() {
    says(20, "of the latest see() of this WORKS that was not refused");
    fresh(LIVERY);
    see(0, 0, 1);
    due("had(0)", x.had(0), 4);
    see(0, 0, 255);
    due("had(0) of the latest", x.had(0), 1);
    see(0, 0, 3);
    due("had(0) of the one that was not refused", x.had(0), 1);
    x.years(1);
    x.undo();
    due("had(0) behind undo()", x.had(0), 1);
    on(picture());
    due("had(0) behind on()", x.had(0), 1);
    works("fire 101;");
    due("had(0) behind a fault", x.had(0), 1);
    works(LIVERY);
    due("had(0) of another works", x.had(0), 13);
    says(20, "YEARS AHEAD (0 .. 30)");
    // m leaves in the 30th year from now, whatever he has
    fresh("coat a size 10 pay 1;man m size 10 age 35;wears m of a;leaves age>64;");
    see(29, 0, 0);
    due("had(0), seen with a behind 29", x.had(0), 3);
    see(30, 0, 0);
    due("had(0), seen with a behind 30", x.had(0), 0);
    see(30, 0, 255);
    due("had(0), seen with none behind 30", x.had(0), 3);
    says(20, "YEARS beyond 999 are by none");
    int[][] rows = {{969, 30, 1}, {970, 30, 0}, {970, 29, 1}, {998, 1, 1}, {998, 2, 0}, {999, 0, 1}, {999, 1, 0}};
    for (int[] row : rows) {
      fresh("coat a size 10 pay 1;man m size 50 age 1;");
      inYear(row[0]);
      see(row[1], 0, 0);
      due("had(0) in " + row[0] + ", a behind " + row[1], x.had(0), row[2] == 1 ? 2 : 0);
      see(row[1], 0, 255);
      due("had(0) in " + row[0] + ", none behind " + row[1], x.had(0), row[2]);
      see(0, 0, 0, row[1], 0, 0);
      due("had(0) in " + row[0] + ", of two rows", x.had(0), row[2] == 1 ? 2 : 0);
    }
  }

  private static void tellsIs(int man, int years, int who, int most) {
    due("tells(" + man + ", 0)", x.tells(man, 0), years);
    due("tells(" + man + ", 1)", x.tells(man, 1), who);
    due("tells(" + man + ", 2)", x.tells(man, 2), most);
  }

  private static void promise21Tells() {
    says(21, "behind how many YEARS (what 0), the MAN (1), how many are left at the most (2)");
    // of none, a, b: m then has a, a, b; n has b, b, a
    fresh("coat a size 10 pay 1;coat b size 10 pay 1;man m size 10 age 1;man n size 10 age 1;");
    tellsIs(0, 1, 0, 2);
    // of none, a, b, c (m puts on nothing by himself): m keeps it, which tells all; n can't tell so much
    fresh("coat a size 10 pay 1;coat b size 10 pay 1;coat c size 10 pay 1;man n size 10 age 1;man m size 90 age 1;");
    tellsIs(1, 1, 1, 1);
    says(21, "of like ones the first, YEAR by YEAR, MAN by MAN");
    fresh("coat a size 10 pay 1;man n size 10 age 1;man m size 90 age 1;");
    tellsIs(1, 1, 0, 1);
    fresh("coat a size 10 pay 1;man m size 90 age 1;man n size 10 age 1;");
    tellsIs(0, 1, 0, 1);
    says(21, "the most of these left");
    see(0, 0, 0);
    tellsIs(0, 1, 0, 1);
    fresh("coat a size 10 pay 1;coat b size 10 pay 1;coat c size 10 pay 1;man n size 10 age 1;man m size 90 age 1;");
    see(1, 0, 0);
    due("had(1), n took a", x.had(1), 1 + 4 + 8);
    tellsIs(1, 1, 1, 1);
    says(21, "NONE without any left");
    see(0, 0, 0);
    due("had(1)", x.had(1), 0);
    tellsIs(1, NONE, NONE, NONE);
    says(21, "NONE when there is none such, or for others");
    busy();
    see(0, 1, 1);
    due("tells(0, 2)", x.tells(0, 2), 1);
    tellsIs(3, NONE, NONE, NONE);
    for (int man : new int[] {-2, -1, 4, 7}) tellsIs(man, NONE, NONE, NONE);
    for (int what : new int[] {-2, -1, 3, 4}) due("tells(0, " + what + ")", x.tells(0, what), NONE);
    for (int far : FAR) {
      due("tells(" + far + ", 0)", x.tells(far, 0), NONE);
      due("tells(0, " + far + ")", x.tells(0, far), NONE);
    }
    says(21, "NONE when no YEAR comes");
    inYear(998);
    due("tells(0, 0) in 998", x.tells(0, 0), 1);
    inYear(999);
    due("had(0) in 999", x.had(0), 9);
    tellsIs(0, NONE, NONE, NONE);
  }

  private static void promise21Thirty() {
    says(21, "the number of YEARS AHEAD (1 .. 30)");
    // with a he leaves in the first year, with none he is there and takes a later on: till then all have none
    String late = "coat a size 10 pay 1;man m size 10 age 1;leaves coated=1 and year<5;warms if(year<";
    int[][] rows = {{5, 6}, {28, 29}, {29, 30}};
    for (int[] row : rows) {
      fresh(late + row[0] + ",0,1);");
      due("had(0)", x.had(0), 3);
      tellsIs(0, row[1], 0, 1);
    }
    fresh(late + "30,0,1);");
    tellsIs(0, 1, 0, 2);
    says(21, "not beyond YEAR 999");
    String end = "coat a size 10 pay 1;man m size 10 age 1;leaves coated=1 and year<980;warms if(year<";
    fresh(end + "998,0,1);");
    inYear(970);
    tellsIs(0, 29, 0, 1);
    fresh(end + "999,0,1);");
    inYear(970);
    tellsIs(0, 1, 0, 2);
    fresh(end + "998,0,1);");
    inYear(969);
    tellsIs(0, 30, 0, 1);
    fresh(end + "998,0,1);");
    inYear(968);
    tellsIs(0, 1, 0, 2);
  }
}
