import java.lang.management.ManagementFactory;
import java.util.Random;

/** Any arguments in any state: no call throws or fails to end, the same calls answer the same, and none makes objects. */
public final class AnyCallsTest {
  private static final int[] EDGES = {Integer.MIN_VALUE, Integer.MAX_VALUE, -2, -1, 0, 1, 2, 3, 5, 6, 7, 8, 9, 20, 21, 30, 31, 39, 40,
      41, 98, 99, 100, 255, 256, 999, 1000, 1599, 1600, 1601};
  private static final String[] TEXTS = {"", "coat", "leaves all;",
      "coat a size 5 pay 1;coat b size 9 pay 99;man m size 5 age 5;man n size 8 age 98;wears m of b;fire 60;",
      "coat a size 5 pay 1;coat b size 9 pay 99;coat c size 7 pay 3;coat d size 1 pay 0;coat e size 99 pay 9;coat f size 8 pay 8;"
          + "coat g size 7 pay 7;coat h size 6 pay 6;man m size 5 age 5;man n size 8 age 98;man o size 7 age 7;man p size 3 age 30;"
          + "man q size 4 age 40;man r size 6 age 60;man s size 9 age 90;wears m of b;wears s of h;warms 9-max(size-coat,coat-size)+lining/3;"
          + "grows if(year%2=0,size+1,size-1);leaves age>97 and not purse<500 or purse>5000;fire 20;"};

  public static void main(String[] args) {
    long sum = 0;
    for (int run = 0; run < 400; run++) {
      long once = play(run);
      long again = play(run);
      if (once != again) {
        System.out.println("run " + run + " answered unlike when played again");
        System.exit(1);
      }
      sum += once;
    }
    System.out.println("no call threw (" + Long.toHexString(sum) + ")");
    countBytes();
  }

  private static long play(int run) {
    Random r = new Random(run);
    PegCoats x = new PegCoats();
    long sum = 0;
    for (int k = 0; k < 512; k++) {
      if (r.nextInt(40) == 0 || k == 0) {
        x.end(0);
        feed(x, TEXTS[r.nextInt(TEXTS.length)]);
        sum = sum * 31 + x.works();
      }
      sum = sum * 31 + call(x, r.nextInt(32), number(r), number(r), number(r));
    }
    return sum;
  }

  private static int number(Random r) {
    return r.nextInt(3) == 0 ? EDGES[r.nextInt(EDGES.length)] : r.nextInt(10) == 0 ? r.nextInt() : r.nextInt(8);
  }

  private static void feed(PegCoats x, String text) {
    for (int k = 0; k < text.length(); k += 20) {
      int[] five = new int[5];
      for (int i = 0; i < 20; i++) five[i / 4] = five[i / 4] << 8 | (k + i < text.length() ? text.charAt(k + i) : ' ');
      x.feed(five[0], five[1], five[2], five[3], five[4]);
    }
  }

  private static long call(PegCoats x, int which, int a, int b, int c) {
    switch (which) {
      case 0: return x.feed(a, b, c, a, b);
      case 1: return x.end(a) ? 1 : 0;
      case 2: return x.fault(a);
      case 3: return x.has(a);
      case 4: return x.letter(a, b, c);
      case 5: return x.coat(a, b);
      case 6: return x.man(a, b);
      case 7: return x.warms(a, b);
      case 8: return x.later(a, b);
      case 9: return x.purse(a, b);
      case 10: return x.goes(a);
      case 11: return x.match(a);
      case 12: return x.glad(a);
      case 13: return x.passes(a, b, c);
      case 14: return x.waits(a, b);
      case 15: return x.called(a, b);
      case 16: return x.see();
      case 17: return x.had(a);
      case 18: return x.tells(a, b);
      case 19: return x.years(a);
      case 20: return x.chance(a);
      case 21: return x.pass(a, b) ? 1 : 0;
      case 22: return x.put(a, b) ? 1 : 0;
      case 23: return x.hang(a) ? 1 : 0;
      case 24: return x.undo() ? 1 : 0;
      case 25: return x.seed(a) ? 1 : 0;
      case 26: return x.kept(a, b);
      case 27: return x.image();
      case 28: return x.octet(a);
      case 29: return x.on() ? 1 : 0;
      case 30: return x.status(a);
      default: return x.works();
    }
  }

  /** All calls of one run live in one room, so what an object and its calls make is bounded here. */
  private static void countBytes() {
    com.sun.management.ThreadMXBean bean = (com.sun.management.ThreadMXBean) ManagementFactory.getThreadMXBean();
    long thread = Thread.currentThread().getId();
    int[] numbers = new int[512 * 4];
    Random r = new Random(5);
    for (int k = 0; k < numbers.length; k++) numbers[k] = number(r);
    long start = bean.getThreadAllocatedBytes(thread);
    PegCoats x = new PegCoats();
    long made = bean.getThreadAllocatedBytes(thread) - start;
    for (int k = 0; k < TEXTS.length; k++) {
      x.end(0);
      feed(x, TEXTS[k]);
      x.works();
      long from = bean.getThreadAllocatedBytes(thread);
      for (int i = 0; i < 512; i++) call(x, Math.floorMod(i, 31), numbers[4 * i], numbers[4 * i + 1], numbers[4 * i + 2]);
      long more = bean.getThreadAllocatedBytes(thread) - from;
      if (more > 4096) {
        System.out.println("512 calls made " + more + " bytes of objects with text " + k);
        System.exit(1);
      }
    }
    System.out.println("an object is " + made + " bytes, its calls make none");
    if (made > 100000) System.exit(1);
  }
}
