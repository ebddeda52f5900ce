/** What is done, images and refusals, sentence by sentence: promises 22 to 33, part II of the terms. */
public final class ActEdgesTest extends Dues {
  /** The image of busy() without its last byte. */
  private static final int[] BUSY = {0, 2, 1, 1, 0, 2, 0, 3, 10, 22, 255, 0, 7, 1, 12, 32, 1, 0, 8, 1, 11, 66, 255, 0, 1, 1, 50, 91, 255, 0, 0, 0};
  private static final int AL = 8;
  private static final int BO = 14;
  private static final int DI = 26;

  public static void main(String[] args) {
    promise22Years();
    promise22Grows();
    promise22Leaves();
    promise22PutsOn();
    promise22Pay();
    promise23Chance();
    promise23Fire();
    promise23Burnt();
    promise24Pass();
    promise25Put();
    promise26Hang();
    promise27Undo();
    promise27Twenty();
    promise28Seed();
    promise29Kept();
    promise30Image();
    promise31Octet();
    promise32On();
    promise32Allowed();
    promise32Refused();
    promise33Status();
    finish();
  }

  // ---- years

  private static void promise22Years() {
    says(22, "n YEARS go by (1 .. 40): how many COATS were put on");
    // old takes a in the first year and leaves it in the second one, new takes it then
    String one = "coat a size 10 pay 2;man old size 10 age 64;man new size 10 age 20;leaves age>65;fire 100;";
    int[] putOn = {1, 2, 2};
    for (int n = 1; n <= 3; n++) {
      fresh(one);
      due("years(" + n + ")", x.years(n), putOn[n - 1]);
      due("has(2)", x.has(2), n);
      due("has(9), one act", x.has(9), 1);
      due("has(7)", x.has(7), n);
    }
    fresh(one);
    due("years(40)", x.years(40), 2);
    due("has(2)", x.has(2), 40);
    due("years(1)", x.years(1), 0);
    fresh(FULL);
    due("years(1) of all", x.years(1), 7);
    due("years(1) when all have one", x.years(1), 0);
    says(22, "without DRAWS");
    fresh(one);
    x.years(40);
    due("has(10)", x.has(10), 1);
    due("has(6)", x.has(6), 0);
    says(22, "NONE, refused (2), when it can't be");
    for (int n : new int[] {-2, -1, 0, 41, 42}) refused(2, "years(" + n + ")", Dues::busy, () -> x.years(n), NONE);
    for (int n : FAR) refused(2, "years(" + n + ")", Dues::busy, () -> x.years(n), NONE);
    says(22, "when it can't be (beyond YEAR 999)");
    int[][] most = {{0, 40}, {959, 40}, {960, 39}, {997, 2}, {998, 1}, {999, 0}};
    for (int[] row : most) {
      int n = row[1] + 1;
      refused(2, "years(" + n + ") in " + row[0], () -> { busy(); inYear(row[0]); }, () -> x.years(n), NONE);
      if (row[1] == 0) continue;
      busy();
      inYear(row[0]);
      due("years(" + row[1] + ") in " + row[0], x.years(row[1]) != NONE, true);
      due("has(2)", x.has(2), row[0] + row[1]);
    }
  }

  private static void promise22Grows() {
    says(22, "each MAN who is there has the size that the SUM of grows tells, 1 .. 99 (below is 1, above 99; without it his size)");
    String[] sums = {"0", "1", "2", "98", "99", "100", "9999", "0-1", "0-1000*1000", "1000*1000", "size", "size-49", "size-50", "size+49", "size+50"};
    int[] sizes = {1, 1, 2, 98, 99, 99, 99, 1, 1, 99, 50, 1, 1, 99, 99};
    for (int k = 0; k < sums.length; k++) {
      fresh("man m size 50 age 1;grows " + sums[k] + ";");
      x.years(1);
      due("man(0, 0) by " + sums[k], x.man(0, 0), sizes[k]);
    }
    fresh("man m size 50 age 1;");
    x.years(3);
    due("man(0, 0) without", x.man(0, 0), 50);
    says(22, "by size, age as they are; then he is a YEAR older (99 at most)");
    fresh("man m size 50 age 20;man n size 60 age 97;grows age;");
    int[][] rows = {{20, 21, 97, 98}, {21, 22, 98, 99}, {22, 23, 99, 99}, {23, 24, 99, 99}};
    for (int[] row : rows) {
      x.years(1);
      for (int k = 0; k < 4; k++) due("man(" + k / 2 + ", " + k % 2 + ")", x.man(k / 2, k % 2), row[k]);
    }
    fresh("man m size 50 age 0;grows year+10;");
    x.years(1);
    due("man(0, 0) by the year as it is", x.man(0, 0), 10);
    due("man(0, 1)", x.man(0, 1), 1);
    x.years(2);
    due("man(0, 0)", x.man(0, 0), 12);
    says(22, "each MAN who is there");
    fresh("man m size 50 age 20;man n size 50 age 30;grows size+1;leaves age=32;");
    x.years(5);
    due("man(0, 0)", x.man(0, 0), 55);
    due("man(0, 1)", x.man(0, 1), 25);
    due("man(1, 0) of one gone", x.man(1, 0), 52);
    due("man(1, 1) of one gone", x.man(1, 1), 32);
  }

  private static void leavesIn(int year, String text) {
    fresh(text);
    due("goes(0) of " + text, x.goes(0), year);
    if (year != NONE) x.years(year + 1);
    due("man(0, 4) of " + text, x.man(0, 4), year == NONE ? 1 : 0);
  }

  private static void promise22Leaves() {
    says(22, "THEN each for whom the TEST of leaves holds (without it: nobody) is gone");
    leavesIn(0, "man m size 10 age 20;leaves all;");
    leavesIn(NONE, "man m size 10 age 20;leaves not all;");
    leavesIn(NONE, "man m size 10 age 20;");
    leavesIn(0, "man m size 10 age 20;grows size+1;leaves size=11;");
    leavesIn(NONE, "man m size 10 age 20;grows size+1;leaves size=10;");
    leavesIn(0, "man m size 10 age 20;leaves age=21;");
    leavesIn(NONE, "man m size 10 age 20;leaves age=20;");
    leavesIn(0, "man m size 10 age 20;leaves year=0;");
    leavesIn(3, "man m size 10 age 20;leaves year=3;");
    leavesIn(1, "coat a size 10 pay 3;man m size 10 age 20;leaves purse=3;");
    leavesIn(0, "coat a size 10 pay 3;man m size 10 age 20;leaves coated=0;");
    leavesIn(1, "coat a size 10 pay 3;man m size 10 age 20;leaves coated=1;");
    leavesIn(0, "coat a size 10 pay 3;man m size 10 age 20;wears m of a;leaves coated=1;");
    leavesIn(NONE, "coat a size 10 pay 3;man m size 10 age 20;wears m of a;leaves coated=0;");
    says(22, "is gone for good: his COAT is on its peg");
    fresh("coat a size 10 pay 3;man m size 10 age 20;wears m of a;leaves year=1;");
    x.years(1);
    due("has(3)", x.has(3), 1);
    x.years(1);
    int[] man = {10, 22, NONE, 3, 0};
    for (int k = 0; k < 5; k++) due("man(0, " + k + ")", x.man(0, k), man[k]);
    int[] coat = {10, 3, 1, 0, NONE};
    for (int k = 0; k < 5; k++) due("coat(0, " + k + ")", x.coat(0, k), coat[k]);
    due("has(5)", x.has(5), 1);
    x.years(40);
    due("has(3)", x.has(3), 0);
    for (int k = 0; k < 5; k++) due("man(0, " + k + ") for good", x.man(0, k), man[k]);
  }

  private static void promise22PutsOn() {
    says(22, "THEN MAN by MAN, who is there and has none: of the COATS on their pegs");
    fresh("coat a size 10 pay 3;coat b size 11 pay 3;man m size 11 age 20;man n size 11 age 20;man o size 11 age 20;");
    x.years(1);
    due("man(0, 2)", x.man(0, 2), 1);
    due("man(1, 2)", x.man(1, 2), 0);
    due("man(2, 2)", x.man(2, 2), NONE);
    fresh("coat a size 10 pay 3;man m size 10 age 20;man n size 10 age 90;wears n of a;leaves age>90;");
    due("years(1), what a later one left", x.years(1), 1);
    due("man(0, 2)", x.man(0, 2), 0);
    due("coat(0, 2)", x.coat(0, 2), 2);
    fresh("coat a size 10 pay 3;coat b size 20 pay 3;man m size 20 age 20;wears m of a;");
    due("years(1), who has one keeps it", x.years(1), 0);
    due("man(0, 2)", x.man(0, 2), 0);
    fresh("coat a size 50 pay 3;man m size 20 age 20;wears m of a;");
    x.years(1);
    due("man(0, 2), though it does not warm him", x.man(0, 2), 0);
    fresh("coat a size 10 pay 3;man m size 10 age 20;leaves all;");
    due("years(1), who is gone puts on none", x.years(1), 0);
    fresh("coat a size 10 pay 3;man m size 10 age 20;");
    with(coatAt(0), 1);
    due("years(1), none that is burnt", x.years(1), 0);
    says(22, "the one that WARMS him most, if that is above 0; of like ones the first");
    int[][] rows = {{20, 30, 30, NONE}, {20, 11, 30, 1}, {20, 11, 10, 2}, {19, 30, 30, 0}, {1, 19, 1, 0}, {1, 1, 20, 0}, {30, 19, 19, 1}};
    for (int[] row : rows) {
      fresh("coat a size " + row[0] + " pay 1;coat b size " + row[1] + " pay 1;coat c size " + row[2] + " pay 1;man m size 10 age 1;");
      x.years(1);
      due("man(0, 2) of " + row[0] + ", " + row[1] + ", " + row[2], x.man(0, 2), row[3]);
    }
    says(22, "by the size and the age that he has then, the YEAR that it is, the LININGS that are");
    leavesNothing("warms age-20;", 0);
    leavesNothing("warms age-21;", NONE);
    leavesNothing("grows size+1;warms size-20;", 0);
    leavesNothing("grows size+1;warms size-21;", NONE);
    leavesNothing("warms year;", NONE);
    leavesNothing("warms year+1;", 0);
    leavesNothing("warms lining;", NONE);
    leavesNothing("warms lining+1;", 0);
    leavesNothing("warms 1-lining;", 0);
  }

  private static void leavesNothing(String more, int coat) {
    fresh("coat a size 20 pay 1;man m size 20 age 20;" + more);
    due("years(1) by " + more, x.years(1), coat == NONE ? 0 : 1);
    due("man(0, 2) by " + more, x.man(0, 2), coat);
    due("coat(0, 2) by " + more, x.coat(0, 2), coat == NONE ? 0 : 1);
  }

  private static void promise22Pay() {
    says(22, "THEN each who has a COAT has its pay more in his purse (9999 at most)");
    fresh("coat a size 10 pay 99;coat b size 20 pay 0;man m size 10 age 1;man n size 20 age 1;man o size 30 age 1;");
    x.years(1);
    due("man(0, 3), what he put on pays at once", x.man(0, 3), 99);
    due("man(1, 3) by 0", x.man(1, 3), 0);
    due("man(2, 3) without one", x.man(2, 3), 0);
    int[][] purses = {{9899, 9998}, {9900, 9999}, {9901, 9999}, {9999, 9999}, {255, 354}, {256, 355}};
    for (int[] row : purses) {
      withTwo(manAt(0) + 3, row[0]);
      x.years(1);
      due("man(0, 3) behind " + row[0], x.man(0, 3), row[1]);
    }
    fresh("coat a size 10 pay 5;man m size 10 age 1;wears m of a;leaves year=1;");
    x.years(1);
    due("man(0, 3)", x.man(0, 3), 5);
    x.years(1);
    due("man(0, 3), who went draws none", x.man(0, 3), 5);
    says(22, "The YEAR is one more (999 at most)");
    inYear(997);
    x.years(2);
    due("has(2)", x.has(2), 999);
    due("years(1)", x.years(1), NONE);
    due("chance(1)", x.chance(1), NONE);
    due("has(2)", x.has(2), 999);
  }

  // ---- by the seed

  private static int next(int seed) {
    return (int) ((1103515245L * seed + 12345L) % 2147483648L);
  }

  /** What a draw of m gives behind a seed. */
  private static int draw(int seed, int m) {
    return next(seed) / 64 % m;
  }

  private static int seedFor(int hundredth) {
    int seed = 0;
    while (draw(seed, 100) != hundredth) seed++;
    return seed;
  }

  private static void promise23Chance() {
    says(23, "n YEARS by the seed (1 .. 40), one ACT");
    busy();
    due("chance(1)", x.chance(1) != NONE, true);
    due("has(2)", x.has(2), 3);
    due("has(9)", x.has(9), 6);
    due("has(7)", x.has(7), 3);
    due("chance(40)", x.chance(40) != NONE, true);
    due("has(2)", x.has(2), 43);
    due("has(9)", x.has(9), 7);
    due("has(7)", x.has(7), 40);
    for (int n : new int[] {2, 7}) {
      busy();
      int burnt = 0;
      for (int k = 0; k < n; k++) burnt += x.chance(1);
      PegCoats other = x;
      busy();
      due("chance(" + n + ")", x.chance(n), burnt);
      for (int k = 0; k <= 10; k++) if (k != 9) due("has(" + k + ") behind " + n, x.has(k), other.has(k));
      other.image();
      int[] bytes = picture();
      for (int k = 0; k < bytes.length; k++) due("octet(" + k + ") behind " + n, bytes[k], other.octet(k));
    }
    says(23, "NONE, refused (2), when it can't be");
    for (int n : new int[] {-2, -1, 0, 41, 42}) refused(2, "chance(" + n + ")", Dues::busy, () -> x.chance(n), NONE);
    for (int n : FAR) refused(2, "chance(" + n + ")", Dues::busy, () -> x.chance(n), NONE);
    int[][] most = {{0, 40}, {959, 40}, {960, 39}, {998, 1}, {999, 0}};
    for (int[] row : most) {
      int n = row[1] + 1;
      refused(2, "chance(" + n + ") in " + row[0], () -> { busy(); inYear(row[0]); }, () -> x.chance(n), NONE);
      if (row[1] == 0) continue;
      busy();
      inYear(row[0]);
      due("chance(" + row[1] + ") in " + row[0], x.chance(row[1]) != NONE, true);
      due("has(2)", x.has(2), row[0] + row[1]);
    }
  }

  private static void promise23Fire() {
    says(23, "BY THE SEED a YEAR begins with a DRAW of 100: below fire, if there are COATS, a DRAW of these: that one is BURNT");
    String three = "coat a size 1 pay 1;coat b size 1 pay 1;coat c size 1 pay 1;";
    for (int hundredth : new int[] {0, 1, 49, 50, 98, 99}) {
      int seed = seedFor(hundredth);
      for (int fire = Math.max(0, hundredth - 1); fire <= Math.min(100, hundredth + 2); fire++) {
        boolean burns = hundredth < fire;
        fresh(three + "fire " + fire + ";");
        x.seed(seed);
        due("chance(1) by " + hundredth + " and fire " + fire, x.chance(1), burns ? 1 : 0);
        due("has(10)", x.has(10), burns ? next(next(seed)) : next(seed));
        for (int c = 0; c < 3; c++) due("coat(" + c + ", 3)", x.coat(c, 3), burns && c == draw(next(seed), 3) ? 1 : 0);
      }
    }
    fresh(three);
    x.seed(seedFor(0));
    due("chance(1) by 0 without fire, which is 0", x.chance(1), 0);
    for (int n = 1; n <= 8; n++) {
      StringBuilder text = new StringBuilder("fire 100;");
      for (int c = 0; c < n; c++) text.append("coat ").append((char) ('a' + c)).append(" size 1 pay 1;");
      for (int seed : new int[] {0, 1, 2, 3, 5, 8, 1000, 2147483647}) {
        fresh(text.toString());
        x.seed(seed);
        x.chance(1);
        for (int c = 0; c < n; c++) due("coat(" + c + ", 3) of " + n + " by " + seed, x.coat(c, 3), c == draw(next(seed), n) ? 1 : 0);
      }
    }
    says(23, "if there are COATS; x (the seed) becomes (1103515245 x + 12345) mod 2 to the 31");
    for (int seed : new int[] {0, 1, 2, 12345, 1073741823, 1073741824, 2147483646, 2147483647}) {
      fresh("man m size 1 age 1;fire 100;");
      x.seed(seed);
      due("chance(1)", x.chance(1), 0);
      due("has(10) behind " + seed, x.has(10), next(seed));
      x.chance(2);
      due("has(10) behind " + seed, x.has(10), next(next(next(seed))));
    }
    x.seed(1);
    x.chance(1);
    due("has(10) behind 1, worked out by hand", x.has(10), 1103527590);
  }

  private static void promise23Burnt() {
    says(23, "that one is BURNT, if it is not: how many COATS were BURNT");
    fresh("coat a size 1 pay 1;fire 100;");
    due("chance(1)", x.chance(1), 1);
    int seed = x.has(10);
    due("chance(1), it is already", x.chance(1), 0);
    due("has(10), drawn all the same", x.has(10), next(next(seed)));
    due("has(6)", x.has(6), 1);
    fresh("coat a size 1 pay 1;coat b size 1 pay 1;fire 100;");
    due("chance(40)", x.chance(40), 2);
    due("has(6)", x.has(6), 2);
    says(23, "who has it has none");
    fresh("coat a size 10 pay 7;man m size 10 age 1;man n size 50 age 1;wears n of a;fire 100;");
    x.chance(1);
    due("man(1, 2)", x.man(1, 2), NONE);
    due("man(1, 3), no pay of it", x.man(1, 3), 0);
    due("man(0, 2), nobody takes it", x.man(0, 2), NONE);
    due("coat(0, 4)", x.coat(0, 4), NONE);
    due("coat(0, 2)", x.coat(0, 2), 1);
    due("has(5)", x.has(5), 0);
    says(23, "a YEAR begins with it: he puts on another one in the same YEAR");
    int first = 0;
    while (draw(next(first), 2) != 0) first++;
    fresh("coat a size 10 pay 7;coat b size 12 pay 5;man m size 10 age 1;wears m of a;fire 100;");
    x.seed(first);
    x.chance(1);
    due("man(0, 2)", x.man(0, 2), 1);
    due("man(0, 3)", x.man(0, 3), 5);
    due("coat(1, 2)", x.coat(1, 2), 1);
    due("kept(0, 1)", x.kept(0, 1), 1);
    fresh("coat a size 10 pay 7;man m size 10 age 1;wears m of a;leaves coated=1;fire 100;");
    x.chance(1);
    due("man(0, 4), he had none when the others left", x.man(0, 4), 1);
    says(23, "without fire the YEARS are as they come");
    fresh(HEIR);
    x.years(3);
    PegCoats other = x;
    fresh(HEIR);
    due("chance(3)", x.chance(3), 0);
    x.seed(1);
    standsAlike("chance(3)", other);
  }

  // ---- changes

  private static void promise24Pass() {
    says(24, "Two MEN change COATS: true");
    fresh(LIVERY);
    due("pass(0, 1)", x.pass(0, 1), true);
    dressed(0, 1, NONE);
    linings(2, 2, 0);
    due("pass(1, 0)", x.pass(1, 0), true);
    dressed(1, 0, NONE);
    linings(3, 3, 0);
    says(24, "one may have none");
    due("pass(0, 2)", x.pass(0, 2), true);
    dressed(NONE, 0, 1);
    linings(3, 4, 0);
    due("pass(0, 2)", x.pass(0, 2), true);
    dressed(1, 0, NONE);
    linings(3, 5, 0);
    due("pass(2, 1)", x.pass(2, 1), true);
    dressed(1, NONE, 0);
    linings(4, 5, 0);
    due("has(9), five acts", x.has(9), 5);
    due("status(3)", x.status(3), 0);
    says(24, "false, refused (3), when neither has one");
    refusedPass(0, 2);
    refusedPass(2, 0);
    says(24, "one is not there");
    refusedPass(1, 3);
    refusedPass(3, 1);
    refusedPass(0, 3);
    says(24, "they are one");
    refusedPass(1, 1);
    refusedPass(0, 0);
    says(24, "or there are none such");
    for (int none : new int[] {-2, -1, 4, 7}) {
      refusedPass(1, none);
      refusedPass(none, 1);
      refusedPass(none, none);
    }
    for (int far : FAR) {
      refusedPass(1, far);
      refusedPass(far, 1);
    }
  }

  private static void refusedPass(int one, int other) {
    refused(3, "pass(" + one + ", " + other + ")", Dues::busy, () -> x.pass(one, other) ? 1 : 0, 0);
  }

  private static void dressed(int... coats) {
    for (int m = 0; m < coats.length; m++) due("man(" + m + ", 2)", x.man(m, 2), coats[m]);
  }

  private static void linings(int... counts) {
    for (int c = 0; c < counts.length; c++) due("coat(" + c + ", 2)", x.coat(c, 2), counts[c]);
  }

  private static void promise25Put() {
    says(25, "A MAN puts on a COAT: true; whoever has a COAT that he had not has put it on");
    busy();
    due("put(0, 2)", x.put(0, 2), true);
    dressed(2, 1, NONE, NONE);
    linings(1, 2, 4);
    due("coat(2, 4)", x.coat(2, 4), 0);
    due("has(9)", x.has(9), 6);
    due("man(0, 3), no pay by that", x.man(0, 3), 7);
    fresh("coat a size 90 pay 1;man m size 1 age 1;");
    due("put(0, 0) of what does not warm", x.put(0, 0), true);
    fresh(FULL);
    due("put(6, 7) of the last ones", x.put(6, 7), true);
    due("coat(7, 4)", x.coat(7, 4), 6);
    says(25, "false, refused (3), when he has one");
    refusedPut(1, 2);
    refusedPut(1, 1);
    says(25, "is not there");
    refusedPut(3, 2);
    says(25, "it is not on its peg");
    refusedPut(0, 0);
    refusedPut(0, 1);
    says(25, "or there are none such");
    for (int none : new int[] {-2, -1, 3, 8}) refusedPut(0, none);
    for (int none : new int[] {-2, -1, 4, 7}) refusedPut(none, 2);
    for (int far : FAR) {
      refusedPut(0, far);
      refusedPut(far, 2);
    }
  }

  private static void refusedPut(int man, int coat) {
    refused(3, "put(" + man + ", " + coat + ")", Dues::busy, () -> x.put(man, coat) ? 1 : 0, 0);
  }

  private static void promise26Hang() {
    says(26, "A MAN hangs his COAT on its peg: true");
    busy();
    due("hang(1)", x.hang(1), true);
    dressed(NONE, NONE, NONE, NONE);
    linings(1, 2, 3);
    due("has(5)", x.has(5), 2);
    due("has(9)", x.has(9), 6);
    due("put(1, 1)", x.put(1, 1), true);
    linings(1, 3, 3);
    fresh(FULL + "wears q of h;");
    due("hang(6) of the last one", x.hang(6), true);
    due("has(5)", x.has(5), 8);
    says(26, "false, refused (3), when he has none");
    refusedHang(0);
    refusedHang(3);
    says(26, "or there is none such");
    for (int none : new int[] {-2, -1, 4, 7}) refusedHang(none);
    for (int far : FAR) refusedHang(far);
  }

  private static void refusedHang(int man) {
    refused(3, "hang(" + man + ")", Dues::busy, () -> x.hang(man) ? 1 : 0, 0);
  }

  // ---- undo, seed, kept

  private static void undone(String act, Runnable call) {
    busy();
    PegCoats other = x;
    busy();
    call.run();
    due(act + ", then has(9)", x.has(9), 6);
    other.seed(x.has(10));
    due("undo() of " + act, x.undo(), true);
    alike("undo() of " + act, other);
    due("undo()", x.undo(), true);
    other.undo();
    standsAlike("undo() behind that of " + act, other);
  }

  private static void promise27Undo() {
    says(27, "The latest ACT is undone: all is as it was ahead of it (but the seed): true");
    undone("years(1)", () -> x.years(1));
    undone("years(40)", () -> x.years(40));
    undone("chance(1)", () -> x.chance(1));
    undone("chance(40)", () -> x.chance(40));
    undone("pass(0, 1)", () -> x.pass(0, 1));
    undone("put(0, 2)", () -> x.put(0, 2));
    undone("hang(1)", () -> x.hang(1));
    busy();
    x.hang(1);
    x.seed(99);
    x.undo();
    due("has(10), the seed stays", x.has(10), 99);
    x.chance(2);
    int seed = x.has(10);
    x.undo();
    due("has(10), the seed stays", x.has(10), seed);
    says(27, "what is no ACT is not undone");
    fresh(LIVERY);
    x.pass(0, 1);
    x.seed(5);
    see(0, 0, 255);
    x.image();
    x.years(0);
    x.hang(9);
    due("has(9)", x.has(9), 1);
    due("undo()", x.undo(), true);
    due("has(8)", x.has(8), 1);
    due("octet(8)", x.octet(8), 10);
    dressed(1, 0, NONE);
    says(27, "false, refused (4), when none can be");
    refused(4, "undo() at first", () -> fresh(LIVERY), () -> x.undo() ? 1 : 0, 0);
    refused(4, "undo() of a new one", () -> x = new PegCoats(), () -> x.undo() ? 1 : 0, 0);
    refused(4, "undo() behind works()", () -> { busy(); works(LIVERY); }, () -> x.undo() ? 1 : 0, 0);
    refused(4, "undo() behind on()", () -> { busy(); on(BUSY); }, () -> x.undo() ? 1 : 0, 0);
    refused(4, "undo() behind five", () -> { busy(); for (int k = 0; k < 5; k++) x.undo(); }, () -> x.undo() ? 1 : 0, 0);
  }

  private static void promise27Twenty() {
    says(27, "The last 20 can be undone");
    for (int acts : new int[] {1, 19, 20, 21, 45, 64}) {
      fresh(LIVERY);
      for (int k = 0; k < acts; k++) x.years(1);
      int most = Math.min(20, acts);
      due("has(9) behind " + acts, x.has(9), most);
      for (int k = 1; k <= most; k++) {
        due("undo() " + k + " of " + acts, x.undo(), true);
        due("has(2)", x.has(2), acts - k);
        due("has(7)", x.has(7), Math.min(40, acts - k));
      }
      due("undo() of one more than 20, or than there are", x.undo(), false);
      due("has(2)", x.has(2), acts - most);
      due("status(4)", x.status(4), 1);
    }
    fresh(LIVERY);
    for (int k = 0; k < 20; k++) x.years(1);
    for (int k = 0; k < 10; k++) x.undo();
    due("has(9)", x.has(9), 10);
    for (int k = 0; k < 15; k++) x.years(2);
    due("has(9)", x.has(9), 20);
    due("has(2)", x.has(2), 40);
    for (int k = 0; k < 15; k++) x.undo();
    due("has(2)", x.has(2), 10);
    for (int k = 0; k < 5; k++) x.undo();
    due("has(2)", x.has(2), 5);
    due("undo()", x.undo(), false);
  }

  private static void promise28Seed() {
    says(28, "The seed: true");
    fresh(LIVERY);
    for (int seed : new int[] {0, 1, 2, 65536, 2147483646, 2147483647}) {
      due("seed(" + seed + ")", x.seed(seed), true);
      due("has(10)", x.has(10), seed);
      x.chance(1);
      // red, blue and gray: the second draw comes if the first one is below 50
      due("has(10) behind a year", x.has(10), draw(seed, 100) < 50 ? next(next(seed)) : next(seed));
    }
    due("has(9), no act", x.has(9), 6);
    due("status(5)", x.status(5), 0);
    says(28, "false, refused (5), when it is below 0");
    for (int seed : new int[] {-1, -2, -2147483647, Integer.MIN_VALUE}) refused(5, "seed(" + seed + ")", Dues::busy, () -> x.seed(seed) ? 1 : 0, 0);
  }

  private static void keptIs(int k, int year, int putOn, int went) {
    due("kept(" + k + ", 0)", x.kept(k, 0), year);
    due("kept(" + k + ", 1)", x.kept(k, 1), putOn);
    due("kept(" + k + ", 2)", x.kept(k, 2), went);
  }

  private static void promise29Kept() {
    says(29, "the k-th from the oldest on: 0 YEAR, 1 how many put one on, 2 how many went");
    fresh("coat a size 10 pay 2;man old size 10 age 64;man new size 10 age 20;leaves age>65;");
    x.years(3);
    keptIs(0, 0, 1, 0);
    keptIs(1, 1, 1, 1);
    keptIs(2, 2, 0, 0);
    fresh(FULL + "leaves year=1;");
    x.chance(3);
    keptIs(0, 0, 7, 0);
    keptIs(1, 1, 0, 7);
    keptIs(2, 2, 0, 0);
    x.hang(0);
    x.put(0, 0);
    due("has(7), years alone are kept", x.has(7), 3);
    says(29, "NONE when there is none such, or for others");
    for (int k : new int[] {-2, -1, 3, 4, 39, 40}) keptIs(k, NONE, NONE, NONE);
    for (int what : new int[] {-2, -1, 3, 4}) due("kept(0, " + what + ")", x.kept(0, what), NONE);
    for (int far : FAR) {
      keptIs(far, NONE, NONE, NONE);
      due("kept(0, " + far + ")", x.kept(0, far), NONE);
    }
    fresh(FULL);
    keptIs(0, NONE, NONE, NONE);
    says(29, "the last 40 are told");
    for (int years : new int[] {39, 40, 41, 45, 80, 81}) {
      fresh(FULL);
      for (int k = years; k > 0; k -= 40) x.years(Math.min(40, k));
      int told = Math.min(40, years);
      due("has(7) behind " + years, x.has(7), told);
      for (int k = 0; k < told; k++) keptIs(k, years - told + k, years - told + k == 0 ? 7 : 0, 0);
      keptIs(told, NONE, NONE, NONE);
    }
    says(29, "up to YEAR 999");
    fresh(FULL);
    inYear(990);
    due("has(7), nothing is kept behind on()", x.has(7), 0);
    x.years(9);
    keptIs(0, 990, 7, 0);
    keptIs(8, 998, 0, 0);
    keptIs(9, NONE, NONE, NONE);
  }

  // ---- images

  private static void promise30Image() {
    says(30, "AN IMAGE is written: how many bytes");
    x = new PegCoats();
    due("image() of nothing", x.image(), 3);
    fresh("coat a size 1 pay 1;");
    due("image() of a coat", x.image(), 5);
    fresh("man m size 1 age 1;");
    due("image() of a man", x.image(), 9);
    fresh(FULL);
    due("image() of all there may be", x.image(), 61);
    says(30, "YEAR; for each COAT BURNT, LINING; for each MAN size, age, his COAT, purse, whether he is there; last a byte");
    busy();
    due("image()", x.image(), BUSY.length + 1);
    for (int k = 0; k < BUSY.length; k++) due("octet(" + k + ")", x.octet(k), BUSY[k]);
    due("octet(last)", x.octet(BUSY.length), check(BUSY));
    due("has(9), no act", x.has(9), 5);
    says(30, "two bytes, the higher first");
    fresh("coat a size 10 pay 99;man m size 99 age 99;wears m of a;");
    int[] most = {3, 231, 0, 99, 99, 99, 0, 39, 15, 1};
    due("on()", on(most), true);
    x.image();
    for (int k = 0; k < most.length; k++) due("octet(" + k + ")", x.octet(k), most[k]);
    says(30, "all ahead from 233 on, c = (5 c + it) mod 251");
    x = new PegCoats();
    x.image();
    due("octet(2) of the year 0", x.octet(2), 52);
    x.years(1);
    x.image();
    due("octet(2) of the year 1", x.octet(2), 53);
    inYear(199);
    x.image();
    due("octet(2) of the year 199, it goes round", x.octet(2), 0);
    inYear(198);
    x.image();
    due("octet(2) of the year 198", x.octet(2), 250);
  }

  private static void promise31Octet() {
    says(31, "Byte k of the latest image(); NONE when there is none such");
    x = new PegCoats();
    for (int k : new int[] {-1, 0, 1, 61}) due("octet(" + k + ") ahead of any", x.octet(k), NONE);
    fresh(FULL);
    x.image();
    due("octet(0)", x.octet(0), 0);
    due("octet(60)", x.octet(60) != NONE, true);
    for (int k : new int[] {-2, -1, 61, 62}) due("octet(" + k + ")", x.octet(k), NONE);
    for (int far : FAR) due("octet(" + far + ")", x.octet(far), NONE);
    x.years(5);
    due("octet(1) stays", x.octet(1), 0);
    x.image();
    due("octet(1) of the latest", x.octet(1), 5);
    x.undo();
    due("octet(1) stays", x.octet(1), 5);
    works("");
    due("octet(60) stays", x.octet(60) != NONE, true);
    x.image();
    due("octet(2)", x.octet(2), 52);
    due("octet(3)", x.octet(3), NONE);
    due("octet(60)", x.octet(60), NONE);
  }

  private static void promise32On() {
    says(32, "true, all is as it tells, nothing is KEPT, no ACT can be undone");
    busy();
    PegCoats other = x;
    fresh(LIVERY + "man di size 50 age 90;leaves age>90;");
    x.years(7);
    x.seed(other.has(10));
    see(0, 0, 255, 1, 1, 1);
    due("on()", on(BUSY), true);
    int[] has = {3, 4, 2, 3, 1, 1, 1, 0, 2, 0, other.has(10)};
    for (int k = 0; k < has.length; k++) due("has(" + k + ")", x.has(k), has[k]);
    for (int c = 0; c < 3; c++) for (int k = 0; k < 5; k++) due("coat(" + c + ", " + k + ")", x.coat(c, k), other.coat(c, k));
    for (int m = 0; m < 4; m++) for (int k = 0; k < 5; k++) due("man(" + m + ", " + k + ")", x.man(m, k), other.man(m, k));
    due("undo()", x.undo(), false);
    due("kept(0, 0)", x.kept(0, 0), NONE);
    due("status(5)", x.status(5), 0);
    x.years(3);
    x.later(0, 2);
    on(BUSY);
    due("has(7) behind on()", x.has(7), 0);
    due("kept(0, 0) behind on()", x.kept(0, 0), NONE);
    says(32, "The tape (it goes)");
    due("feed()", x.feed(0, 0, 0, 0, 0), 20);
    due("on()", x.on(), false);
    due("feed() behind a refused one", x.feed(0, 0, 0, 0, 0), 20);
    says(32, "AN IMAGE of this WORKS");
    x = new PegCoats();
    due("on() of nothing", on(0, 0), true);
    due("on() of a coat there is not", on(0, 0, 0, 0), false);
    fresh("coat a size 1 pay 1;");
    due("on() of a coat", on(0, 0, 0, 0), true);
    due("on() without it", on(0, 0), false);
    due("on() of two", on(0, 0, 0, 0, 0, 0), false);
    fresh(FULL);
    int[] full = picture();
    due("on() of all there may be", on(full), true);
  }

  private static void onWith(int value, int at, boolean want) {
    int[] bytes = BUSY.clone();
    bytes[at] = value;
    if (!want) {
      refusedOn("with " + value + " at " + at, bytes);
      return;
    }
    busy();
    due("on() with " + value + " at " + at, on(bytes), true);
    int[] then = picture();
    for (int k = 0; k < then.length; k++) due("octet(" + k + ") with " + value + " at " + at, then[k], bytes[k]);
    due("has(7)", x.has(7), 0);
    due("has(8)", x.has(8), 2);
    due("has(9)", x.has(9), 0);
  }

  private static void refusedOn(String what, int... bytes) {
    refusedTape(5, "on() " + what, () -> { busy(); feedImage(bytes); }, () -> x.on() ? 1 : 0, 0);
  }

  private static void promise32Allowed() {
    says(32, "YEAR 999, LININGS, ages 99, purses 9999 at most; sizes 1 .. 99; flags 0, 1");
    int[][] good = {{0, 1}, {231, 1}, {255, 1}, {0, 2}, {0, 3}, {99, 3}, {0, 5}, {99, 7}, {1, AL}, {99, AL}, {0, AL + 1}, {99, AL + 1},
        {39, AL + 3}, {255, AL + 4}, {0, AL + 5}, {1, DI + 5}, {1, 6}, {0, DI + 1}, {99, DI}};
    for (int[] row : good) onWith(row[0], row[1], true);
    int[][] bad = {{4, 0}, {255, 0}, {2, 2}, {255, 2}, {2, 6}, {100, 3}, {255, 3}, {100, 5}, {100, 7}, {0, AL}, {100, AL}, {255, AL}, {0, DI}, {100, DI},
        {100, AL + 1}, {255, AL + 1}, {100, DI + 1}, {40, AL + 3}, {255, AL + 3}, {2, AL + 5}, {255, AL + 5}, {2, DI + 5}};
    for (int[] row : bad) onWith(row[0], row[1], false);
    int[] year = BUSY.clone();
    year[0] = 3;
    year[1] = 231;
    busy();
    due("on() of the year 999", on(year), true);
    due("has(2)", x.has(2), 999);
    year[1] = 232;
    refusedOn("of the year 1000", year);
    int[] purse = BUSY.clone();
    purse[BO + 3] = 39;
    purse[BO + 4] = 15;
    busy();
    due("on() with 9999", on(purse), true);
    due("man(1, 3)", x.man(1, 3), 9999);
    purse[BO + 4] = 16;
    refusedOn("with 10000", purse);
    says(32, "COATS that there are, not BURNT, on MEN who are there, none on two");
    onWith(2, AL + 2, true);
    onWith(255, BO + 2, true);
    onWith(2, BO + 2, true);
    onWith(0, AL + 2, false);
    onWith(1, AL + 2, false);
    onWith(3, AL + 2, false);
    onWith(8, AL + 2, false);
    onWith(254, AL + 2, false);
    onWith(1, 4, false);
    onWith(0, BO + 5, false);
    onWith(2, DI + 2, false);
    onWith(0, DI + 2, false);
  }

  private static void promise32Refused() {
    says(32, "false, refused (5), all staying, if it is none such");
    refusedOn("with a byte less", java.util.Arrays.copyOf(BUSY, BUSY.length - 1));
    refusedOn("with a byte more", java.util.Arrays.copyOf(BUSY, BUSY.length + 1));
    refusedOn("of the year alone", 0, 0);
    refusedTape(5, "on() of nothing", () -> { busy(); feed(); }, () -> x.on() ? 1 : 0, 0);
    refusedTape(5, "on() of 1600 bytes", () -> { busy(); feed(new int[1600]); }, () -> x.on() ? 1 : 0, 0);
    int good = check(BUSY);
    for (int last : new int[] {0, good - 1, good + 1, 250, 251, 255}) {
      int[] bytes = java.util.Arrays.copyOf(BUSY, BUSY.length + 1);
      bytes[BUSY.length] = last;
      refusedTape(5, "on() with the last byte " + last, () -> { busy(); feed(bytes); }, () -> x.on() ? 1 : 0, 0);
    }
    int[] whole = java.util.Arrays.copyOf(BUSY, BUSY.length + 1);
    whole[BUSY.length] = good;
    busy();
    feed(whole);
    due("on() with the last byte as it is due", x.on(), true);
    // the last byte of the year 199 is 0; 251 is the same number mod 251, but no byte that an image has
    x = new PegCoats();
    feed(0, 199, 0);
    due("on() of the year 199", x.on(), true);
    feed(0, 199, 251);
    due("on() of the year 199 with 251", x.on(), false);
  }

  private static void promise33Status() {
    says(33, "How many were refused: 0 feed(), end(); 1 works(); 2 years(), chance(); 3 pass(), put(), hang(); 4 undo(); 5 seed(), see(), on()");
    fresh(LIVERY);
    int[] want = new int[6];
    statusIs(want);
    x.end(21);
    want[0]++;
    statusIs(want);
    for (int k = 0; k < 80; k++) x.feed(0, 0, 0, 0, 0);
    statusIs(want);
    x.feed(0, 0, 0, 0, 0);
    want[0]++;
    statusIs(want);
    x.works();
    want[1]++;
    statusIs(want);
    x.years(0);
    want[2]++;
    statusIs(want);
    x.chance(0);
    want[2]++;
    statusIs(want);
    x.pass(0, 0);
    want[3]++;
    statusIs(want);
    x.put(0, 0);
    want[3]++;
    statusIs(want);
    x.hang(2);
    want[3]++;
    statusIs(want);
    x.undo();
    want[4]++;
    statusIs(want);
    x.seed(-1);
    want[5]++;
    statusIs(want);
    x.see();
    want[5]++;
    statusIs(want);
    x.on();
    want[5]++;
    statusIs(want);
    says(33, "what is not refused is not counted, and the counts stay");
    x.end(0);
    x.years(1);
    x.chance(1);
    x.pass(0, 1);
    x.hang(1);
    x.put(1, 1);
    x.undo();
    x.seed(0);
    see(0, 0, 255);
    on(picture());
    works(LIVERY);
    x.later(9, 99);
    x.has(99);
    statusIs(want);
    says(33, "NONE for others");
    for (int what : new int[] {-2, -1, 6, 7}) due("status(" + what + ")", x.status(what), NONE);
    for (int far : FAR) due("status(" + far + ")", x.status(far), NONE);
  }

  private static void statusIs(int[] want) {
    for (int k = 0; k < 6; k++) due("status(" + k + ")", x.status(k), want[k]);
  }
}
