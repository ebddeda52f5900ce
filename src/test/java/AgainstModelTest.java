import java.util.ArrayDeque;
import java.util.ArrayList;
import java.util.Arrays;
import java.util.HashMap;
import java.util.List;
import java.util.Map;
import java.util.Random;
import java.util.Set;

/**
 * Plays runs of calls, by fixed seeds, on the program and on a plain model of the document written
 * apart from it (trees, exceptions, every row tried), and prints every answer that is not the same.
 */
public final class AgainstModelTest {
  private static int wrong = 0;
  private static long calls = 0;

  public static void main(String[] args) {
    int runs = args.length > 0 ? Integer.parseInt(args[0]) : 1500;
    int first = args.length > 1 ? Integer.parseInt(args[1]) : 1;
    int[] faults = new int[7];
    for (int run = first; run < first + runs && wrong < 20; run++) {
      new Player(run, faults).play();
    }
    for (int run = first; run < first + runs * 10 && wrong < 20; run++) {
      readBroken(run, faults);
    }
    System.out.println(calls + " calls, works by fault " + Arrays.toString(faults));
    for (int kind = 0; kind < 7 && runs >= 1000; kind++) {
      if (faults[kind] == 0) { wrong++; System.out.println("no text with fault " + kind + " was tried"); }
    }
    System.out.println(wrong == 0 ? "all answers are the model's" : wrong + " answers are not the model's");
    if (wrong != 0) System.exit(1);
  }

  private static void due(int run, String call, long got, long want) {
    calls++;
    if (got != want) { wrong++; System.out.println("run " + run + ": " + call + " answered " + got + ", the model " + want); }
  }

  private static void feed(PegCoats x, byte[] text) {
    int[] five = new int[5];
    for (int k = 0; k < text.length; k += 20) {
      for (int i = 0; i < 5; i++) {
        five[i] = 0;
        for (int j = 0; j < 4; j++) {
          int at = k + 4 * i + j;
          five[i] = five[i] << 8 | (at < text.length ? text[at] & 255 : 32);
        }
      }
      x.feed(five[0], five[1], five[2], five[3], five[4]);
    }
    x.end(text.length);
  }

  private static void readBroken(int run, int[] faults) {
    Random random = new Random(run * 7919L);
    String text = Texts.breakIt(random, Texts.works(random));
    if (text.length() > 1600) return;
    byte[] bytes = Texts.bytes(text);
    PegCoats x = new PegCoats();
    Model m = new Model();
    feed(x, bytes);
    long want = m.works(bytes);
    due(run, "works() of " + text, x.works(), want);
    due(run, "fault(0) of " + text, x.fault(0), m.fault);
    due(run, "fault(1) of " + text, x.fault(1), m.place);
    faults[m.fault]++;
  }

  // ---- texts

  private static final class Texts {
    static byte[] bytes(String text) {
      byte[] b = new byte[text.length()];
      for (int k = 0; k < b.length; k++) b[k] = (byte) text.charAt(k);
      return b;
    }

    static String gap(Random r, boolean needed) {
      String s = needed ? (r.nextInt(6) == 0 ? "\n" : " ") : "";
      while (r.nextInt(8) == 0) s += r.nextBoolean() ? " " : "\n";
      return s;
    }

    static String name(Random r) {
      StringBuilder s = new StringBuilder();
      int n = 1 + r.nextInt(r.nextInt(4) == 0 ? 6 : 2);
      for (int k = 0; k < n; k++) s.append((char) ('a' + r.nextInt(r.nextBoolean() ? 26 : 6)));
      return s.toString();
    }

    static String number(Random r, int least, int most) {
      String s = String.valueOf(least + r.nextInt(most - least + 1));
      while (s.length() < 4 && r.nextInt(20) == 0) s = "0" + s;
      return s;
    }

    static String works(Random r) {
      StringBuilder s = new StringBuilder();
      List<String> names = new ArrayList<>();
      List<String> coats = new ArrayList<>();
      List<String> men = new ArrayList<>();
      int coatCount = r.nextInt(9);
      int manCount = r.nextInt(8);
      int base = 1 + r.nextInt(80);
      int spread = r.nextInt(4) == 0 ? 99 - base : Math.min(99 - base, 12);
      while (coats.size() + men.size() < coatCount + manCount) {
        String name = name(r);
        if (names.contains(name) || Model.OWN.contains(name)) continue;
        names.add(name);
        boolean coat = coats.size() < coatCount && (men.size() == manCount || r.nextBoolean());
        (coat ? coats : men).add(name);
        s.append(gap(r, false)).append(coat ? "coat" : "man").append(gap(r, true)).append(name)
            .append(gap(r, true)).append("size").append(gap(r, true)).append(number(r, base, base + spread))
            .append(gap(r, true)).append(coat ? "pay" : "age").append(gap(r, true)).append(number(r, 0, 99))
            .append(gap(r, false)).append(";");
      }
      List<String> free = new ArrayList<>(coats);
      for (String man : men) {
        if (free.isEmpty() || r.nextInt(3) == 0) continue;
        s.append("wears ").append(man).append(gap(r, true)).append("of ")
            .append(free.remove(r.nextInt(free.size()))).append(gap(r, false)).append(";");
      }
      if (r.nextInt(3) != 0) s.append("warms ").append(r.nextInt(3) == 0 ? sum(r, 'w', 0) : warm(r)).append(gap(r, false)).append(";");
      if (r.nextInt(3) != 0) s.append("grows ").append(r.nextInt(3) == 0 ? sum(r, 'g', 0) : "size+if(age<" + r.nextInt(99) + "," + r.nextInt(3) + ",0)-year%2").append(";");
      if (r.nextInt(3) != 0) s.append("leaves ").append(r.nextInt(3) == 0 ? test(r, 'l', 0) : "age>" + (40 + r.nextInt(60)) + " or purse>" + r.nextInt(3000)).append(gap(r, false)).append(";");
      while (r.nextInt(2) == 0) s.append("fire ").append(number(r, 0, 100)).append(";").append(gap(r, false));
      return s.toString();
    }

    static String warm(Random r) {
      String s = r.nextInt(20) + "-max(size-coat,coat-size)";
      if (r.nextInt(2) == 0) s += (r.nextBoolean() ? "+" : "-") + "lining";
      if (r.nextInt(3) == 0) s += "+pay/" + (1 + r.nextInt(30));
      if (r.nextInt(4) == 0) s += "-age/" + (1 + r.nextInt(30));
      if (r.nextInt(4) == 0) s += "+year%" + r.nextInt(5);
      return s;
    }

    static String sum(Random r, char where, int deep) {
      StringBuilder s = new StringBuilder(product(r, where, deep));
      while (r.nextInt(3) == 0) s.append(gap(r, false)).append(r.nextBoolean() ? "+" : "-").append(gap(r, false)).append(product(r, where, deep));
      return s.toString();
    }

    static String product(Random r, char where, int deep) {
      StringBuilder s = new StringBuilder(part(r, where, deep));
      while (r.nextInt(3) == 0) s.append(gap(r, false)).append("*/%".charAt(r.nextInt(3))).append(part(r, where, deep));
      return s.toString();
    }

    static String part(Random r, char where, int deep) {
      int kind = r.nextInt(deep > 4 ? 5 : 9);
      if (kind < 2) return number(r, 0, r.nextBoolean() ? 9 : 9999);
      if (kind < 5) {
        String[] words = where == 'w' ? new String[] {"size", "age", "year", "coat", "pay", "lining"}
            : where == 'g' ? new String[] {"size", "age", "year"} : new String[] {"size", "age", "year", "purse", "coated"};
        return words[r.nextInt(words.length)];
      }
      if (kind == 5) return "(" + gap(r, false) + sum(r, where, deep + 1) + ")";
      if (kind == 6) return "min" + gap(r, false) + "(" + sum(r, where, deep + 1) + "," + sum(r, where, deep + 1) + ")";
      if (kind == 7) return "max(" + sum(r, where, deep + 1) + gap(r, false) + "," + sum(r, where, deep + 1) + ")";
      return "if(" + test(r, where, deep + 1) + "," + sum(r, where, deep + 1) + "," + sum(r, where, deep + 1) + ")";
    }

    static String test(Random r, char where, int deep) {
      StringBuilder s = new StringBuilder(fact(r, where, deep));
      while (r.nextInt(3) == 0) s.append(" ").append(r.nextBoolean() ? "or" : "and").append(" ").append(fact(r, where, deep));
      return s.toString();
    }

    static String fact(Random r, char where, int deep) {
      int kind = r.nextInt(8);
      if (kind == 0 && deep < 7) return "not " + fact(r, where, deep + 1);
      if (kind == 1 && deep < 7) return "[" + test(r, where, deep + 1) + gap(r, false) + "]";
      if (kind == 2) return "all";
      return sum(r, where, deep) + "<>=".charAt(r.nextInt(3)) + sum(r, where, deep);
    }

    /** One to three changes: bytes, pieces, or a whole statement again. */
    static String breakIt(Random r, String text) {
      String[] pieces = {"coat", "size", "pay", "man", "age", "wears", "of", "warms", "grows", "leaves", "fire", "year", "lining",
          "purse", "coated", "if", "or", "and", "not ", "all", "min", "max", "(", ")", "[", "]", ",", ";", "+", "<", " ", "0", "100",
          "12345", "abcdefg", "x", "A", "(((((((", "not not not not ", "coat zz size 5 pay 5;", "man yy size 5 age 5;", "warms 1;",
          "wears a of b;", "\t", "\0"};
      StringBuilder s = new StringBuilder(text);
      if (r.nextInt(12) == 0) {
        int n = 70 + r.nextInt(14);
        for (int k = 0; k < n; k++) s.append("fire 1;");
        if (r.nextBoolean()) s.append(pieces[r.nextInt(pieces.length)]);
      }
      for (int n = 1 + r.nextInt(3); n > 0; n--) {
        int at = r.nextInt(s.length() + 1);
        switch (r.nextInt(7)) {
          case 5: otherNumber(r, s, at); break;
          case 6: deeper(r, s, at); break;
          case 0: s.insert(at, pieces[r.nextInt(pieces.length)]); break;
          case 1: if (at < s.length()) s.deleteCharAt(at); break;
          case 2: if (at < s.length()) s.setCharAt(at, (char) r.nextInt(256)); break;
          case 3: if (r.nextInt(3) == 0) s.setLength(at); break;
          default:
            String[] rows = s.toString().split(";");
            if (rows.length > 0) s.insert(s.lastIndexOf(";", at) + 1, rows[r.nextInt(rows.length)] + ";");
            break;
        }
      }
      return s.toString();
    }

    /** Another number in the place of the first one from a place on. */
    static void otherNumber(Random r, StringBuilder s, int at) {
      int from = at;
      while (from < s.length() && !Character.isDigit(s.charAt(from))) from++;
      int to = from;
      while (to < s.length() && Character.isDigit(s.charAt(to))) to++;
      String[] numbers = {"0", "00", "1", "99", "100", "101", "0100", "9999", "10000"};
      s.replace(from, to, numbers[r.nextInt(numbers.length)]);
    }

    /** More that is open where a sum or a test begins. */
    static void deeper(Random r, StringBuilder s, int at) {
      int from = Math.max(s.indexOf("grows ", at), Math.max(s.indexOf("leaves ", at), s.indexOf("warms ", at)));
      if (from < 0) return;
      String[] opens = {"(", "[", "not ", "min(", "if(", "( "};
      StringBuilder more = new StringBuilder();
      int same = r.nextInt(opens.length);
      for (int n = 5 + r.nextInt(5); n > 0; n--) more.append(opens[r.nextInt(3) == 0 ? r.nextInt(opens.length) : same]);
      s.insert(s.indexOf(" ", from) + 1, more);
    }
  }

  // ---- the model

  private static final class Fault extends RuntimeException {
    final int kind;
    final int place;
    Fault(int kind, int place) { super(null, null, false, false); this.kind = kind; this.place = place; }
  }

  private static final class Coat {
    String name; int size, pay, lining; boolean burnt;
    Coat copy() { Coat c = new Coat(); c.name = name; c.size = size; c.pay = pay; c.lining = lining; c.burnt = burnt; return c; }
  }

  private static final class Man {
    String name; int size, age, purse; Coat coat; boolean there = true;
    Man copy() { Man m = new Man(); m.name = name; m.size = size; m.age = age; m.purse = purse; m.there = there; return m; }
  }

  /** A piece of a program. */
  private interface Node { long of(Map<String, Long> at); }

  private static long cap(long n) { return Math.max(-1000000L, Math.min(1000000L, n)); }

  /** Reads a text by cutting it into pieces first; the faults are thrown. */
  private static final class Parser {
    final String text;
    final World world = new World();
    final Set<String> used = new java.util.HashSet<>();
    int pos = 0, open = 0, statements = 0;
    Set<String> words;

    Parser(String text) { this.text = text; }

    int skip() { while (pos < text.length() && (text.charAt(pos) == ' ' || text.charAt(pos) == '\n')) pos++; return pos; }

    static boolean letter(char c) { return c >= 'a' && c <= 'z'; }
    static boolean digit(char c) { return c >= '0' && c <= '9'; }

    /** The piece that stands next, "" at the end; looks without taking. */
    String look() {
      int at = skip();
      if (at == text.length()) return "";
      int to = at;
      char c = text.charAt(at);
      if (letter(c)) { while (to < text.length() && letter(text.charAt(to))) to++; }
      else if (digit(c)) { while (to < text.length() && digit(text.charAt(to))) to++; }
      else to++;
      if ((letter(c) || digit(c)) && at > 0 && (letter(text.charAt(at - 1)) || digit(text.charAt(at - 1)))) throw new Fault(1, at);
      if (letter(c) && to - at > 6) throw new Fault(1, at + 6);
      if (digit(c) && to - at > 4) throw new Fault(1, at + 4);
      return text.substring(at, to);
    }

    void take(String piece) {
      if (!look().equals(piece)) throw new Fault(1, pos);
      pos += piece.length();
    }

    String name() {
      String s = look();
      if (s.isEmpty() || !letter(s.charAt(0)) || Model.OWN.contains(s)) throw new Fault(1, pos);
      return s;
    }

    int number(int least, int most) {
      String s = look();
      if (s.isEmpty() || !digit(s.charAt(0))) throw new Fault(1, pos);
      int n = Integer.parseInt(s);
      if (n < least || n > most) throw new Fault(4, pos);
      pos += s.length();
      return n;
    }

    void all() {
      while (skip() < text.length()) {
        if (statements == 80) throw new Fault(6, pos);
        String s = look();
        int at = pos;
        if (!List.of("coat", "man", "wears", "warms", "grows", "leaves", "fire").contains(s)) throw new Fault(1, at);
        pos += s.length();
        if (s.equals("coat")) {
          if (world.coats.size() == 8) throw new Fault(6, at);
          Coat c = new Coat();
          c.name = fresh();
          take("size"); c.size = number(1, 99); take("pay"); c.pay = number(0, 99);
          world.coats.add(c);
        } else if (s.equals("man")) {
          if (world.men.size() == 7) throw new Fault(6, at);
          Man m = new Man();
          m.name = fresh();
          take("size"); m.size = number(1, 99); take("age"); m.age = number(0, 99);
          world.men.add(m);
        } else if (s.equals("wears")) {
          wears();
        } else if (s.equals("fire")) {
          world.fire = number(0, 100);
        } else {
          if (!used.add(s)) throw new Fault(6, at);
          words = s.equals("warms") ? Set.of("size", "age", "year", "coat", "pay", "lining")
              : s.equals("grows") ? Set.of("size", "age", "year") : Set.of("size", "age", "year", "purse", "coated");
          Node n = s.equals("leaves") ? test() : sum();
          if (s.equals("warms")) world.warms = n; else if (s.equals("grows")) world.grows = n; else world.leaves = n;
        }
        take(";");
        statements++;
      }
    }

    String fresh() {
      String n = name();
      if (world.coats.stream().anyMatch(c -> c.name.equals(n)) || world.men.stream().anyMatch(m -> m.name.equals(n))) throw new Fault(2, pos);
      pos += n.length();
      return n;
    }

    void wears() {
      String n = name();
      Man man = world.men.stream().filter(m -> m.name.equals(n)).findFirst().orElse(null);
      if (man == null || man.coat != null) throw new Fault(3, pos);
      pos += n.length();
      take("of");
      String k = name();
      Coat coat = world.coats.stream().filter(c -> c.name.equals(k)).findFirst().orElse(null);
      if (coat == null || world.wearer(coat) != null) throw new Fault(3, pos);
      pos += k.length();
      man.coat = coat;
      coat.lining = 1;
    }

    void open(String piece) {
      if (!look().equals(piece)) throw new Fault(1, pos);
      if (++open == 8) throw new Fault(5, pos);
      pos += piece.length();
    }

    void close(String piece) { take(piece); open--; }

    Node test() {
      Node left = both();
      while (look().equals("or")) {
        take("or");
        Node a = left, b = both();
        left = at -> a.of(at) != 0 || b.of(at) != 0 ? 1 : 0;
      }
      return left;
    }

    Node both() {
      Node left = fact();
      while (look().equals("and")) {
        take("and");
        Node a = left, b = fact();
        left = at -> a.of(at) != 0 && b.of(at) != 0 ? 1 : 0;
      }
      return left;
    }

    Node fact() {
      String s = look();
      if (s.equals("not")) {
        open("not");
        Node n = fact();
        open--;
        return at -> n.of(at) == 0 ? 1 : 0;
      }
      if (s.equals("[")) {
        open("[");
        Node n = test();
        close("]");
        return n;
      }
      if (s.equals("all")) { take("all"); return at -> 1; }
      Node a = sum();
      String sign = look();
      if (!Set.of("<", ">", "=").contains(sign)) throw new Fault(1, pos);
      take(sign);
      Node b = sum();
      return at -> {
        int c = Long.compare(a.of(at), b.of(at));
        return sign.equals("<") && c < 0 || sign.equals(">") && c > 0 || sign.equals("=") && c == 0 ? 1 : 0;
      };
    }

    Node sum() {
      Node left = product();
      while (Set.of("+", "-").contains(look())) {
        String sign = look();
        take(sign);
        Node a = left, b = product();
        left = at -> cap(sign.equals("+") ? a.of(at) + b.of(at) : a.of(at) - b.of(at));
      }
      return left;
    }

    Node product() {
      Node left = part();
      while (Set.of("*", "/", "%").contains(look())) {
        String sign = look();
        take(sign);
        Node a = left, b = part();
        left = at -> {
          long x = a.of(at), y = b.of(at);
          if (sign.equals("*")) return cap(x * y);
          if (y == 0) return 0;
          long whole = (long) Math.floor((double) x / y);
          return cap(sign.equals("/") ? whole : x - y * whole);
        };
      }
      return left;
    }

    Node part() {
      String s = look();
      if (!s.isEmpty() && digit(s.charAt(0))) {
        long n = number(0, 9999);
        return at -> n;
      }
      if (words.contains(s)) { take(s); return at -> at.get(s); }
      if (s.equals("(")) {
        open("(");
        Node n = sum();
        close(")");
        return n;
      }
      if (s.equals("min") || s.equals("max")) {
        take(s);
        open("(");
        Node a = sum();
        take(",");
        Node b = sum();
        close(")");
        return at -> s.equals("min") ? Math.min(a.of(at), b.of(at)) : Math.max(a.of(at), b.of(at));
      }
      if (s.equals("if")) {
        take(s);
        open("(");
        Node t = test();
        take(",");
        Node a = sum();
        take(",");
        Node b = sum();
        close(")");
        return at -> t.of(at) != 0 ? a.of(at) : b.of(at);
      }
      throw new Fault(1, pos);
    }
  }

  /** How all stands, with the programs of the works. */
  private static final class World {
    List<Coat> coats = new ArrayList<>();
    List<Man> men = new ArrayList<>();
    List<int[]> kept = new ArrayList<>();
    Node warms, grows, leaves;
    int fire, year, lastPut, lastWent;

    World copy() {
      World w = new World();
      for (Coat c : coats) w.coats.add(c.copy());
      for (Man m : men) {
        Man n = m.copy();
        n.coat = m.coat == null ? null : w.coats.get(coats.indexOf(m.coat));
        w.men.add(n);
      }
      w.kept = new ArrayList<>(kept);
      w.warms = warms; w.grows = grows; w.leaves = leaves; w.fire = fire; w.year = year;
      return w;
    }

    Man wearer(Coat c) {
      for (Man m : men) if (m.coat == c) return m;
      return null;
    }

    int coatOf(int man) { return men.get(man).coat == null ? -1 : coats.indexOf(men.get(man).coat); }

    boolean pegged(Coat c) { return !c.burnt && wearer(c) == null; }

    long warmth(int size, int age, Coat c) {
      if (warms == null) return 10 - Math.abs(size - c.size);
      Map<String, Long> at = new HashMap<>();
      at.put("size", (long) size); at.put("age", (long) age); at.put("year", (long) year);
      at.put("coat", (long) c.size); at.put("pay", (long) c.pay); at.put("lining", (long) c.lining);
      return warms.of(at);
    }

    long warmth(Man m) { return m.coat == null ? 0 : warmth(m.size, m.age, m.coat); }

    Coat warmest(int size, int age) {
      Coat best = null;
      for (Coat c : coats) {
        if (pegged(c) && warmth(size, age, c) > 0 && (best == null || warmth(size, age, c) > warmth(size, age, best))) best = c;
      }
      return best;
    }

    void wear(Man m, Coat c) { m.coat = c; if (c != null) c.lining = Math.min(99, c.lining + 1); }

    void change(Man a, Man b) { Coat c = a.coat, d = b.coat; wear(a, d); wear(b, c); }

    void step(int waiter) {
      lastPut = 0; lastWent = 0;
      for (Man m : men) {
        if (!m.there) continue;
        if (grows != null) {
          Map<String, Long> at = Map.of("size", (long) m.size, "age", (long) m.age, "year", (long) year);
          m.size = (int) Math.max(1, Math.min(99, grows.of(at)));
        }
        m.age = Math.min(99, m.age + 1);
      }
      for (Man m : men) {
        if (!m.there || leaves == null) continue;
        Map<String, Long> at = Map.of("size", (long) m.size, "age", (long) m.age, "year", (long) year,
            "purse", (long) m.purse, "coated", m.coat == null ? 0L : 1L);
        if (leaves.of(at) != 0) { m.there = false; m.coat = null; lastWent++; }
      }
      for (int k = 0; k < men.size(); k++) {
        Man m = men.get(k);
        if (!m.there || m.coat != null || k == waiter) continue;
        Coat c = warmest(m.size, m.age);
        if (c != null) { wear(m, c); lastPut++; }
      }
      for (Man m : men) if (m.coat != null) m.purse = Math.min(9999, m.purse + m.coat.pay);
      year = Math.min(999, year + 1);
    }

    World after(int n) {
      World w = copy();
      for (int k = 0; k < n; k++) w.step(-1);
      return w;
    }
  }

  private static final class Model {
    static final Set<String> OWN = Set.of("coat", "size", "pay", "man", "age", "wears", "of", "warms", "grows", "leaves", "fire",
        "year", "lining", "purse", "coated", "if", "or", "and", "not", "all", "min", "max");
    World now = new World();
    ArrayDeque<World> past = new ArrayDeque<>();
    List<int[]> seen = new ArrayList<>();
    byte[] picture = new byte[0];
    int fault = 0, place = -1;
    long seed = 1;
    int[] refused = new int[6];

    int refuse(int kind) { refused[kind]++; return -1; }

    int works(byte[] bytes) {
      StringBuilder s = new StringBuilder();
      for (byte b : bytes) s.append((char) (b & 255));
      Parser p = new Parser(s.toString());
      try {
        p.all();
      } catch (Fault f) {
        fault = f.kind;
        place = f.place;
        return refuse(1);
      }
      fault = 0; place = -1;
      now = p.world;
      past.clear();
      seen.clear();
      return p.statements;
    }

    boolean coat(int c) { return c >= 0 && c < now.coats.size(); }
    boolean man(int m) { return m >= 0 && m < now.men.size(); }
    boolean there(int m) { return man(m) && now.men.get(m).there; }
    boolean comes(int n, int least, int most) { return n >= least && n <= most && now.year + n <= 999; }

    int has(int what) {
      switch (what) {
        case 0: return now.coats.size();
        case 1: return now.men.size();
        case 2: return now.year;
        case 3: return (int) now.men.stream().filter(m -> m.there).count();
        case 4: return (int) now.men.stream().filter(m -> m.coat != null).count();
        case 5: return (int) now.coats.stream().filter(c -> now.pegged(c)).count();
        case 6: return (int) now.coats.stream().filter(c -> c.burnt).count();
        case 7: return Math.min(40, now.kept.size());
        case 8: return seen.size();
        case 9: return past.size();
        case 10: return (int) seed;
        default: return -1;
      }
    }

    int letter(int kind, int which, int k) {
      if (k < 0 || k > 5 || kind < 0 || kind > 1 || !(kind == 0 ? coat(which) : man(which))) return -1;
      String name = kind == 0 ? now.coats.get(which).name : now.men.get(which).name;
      return k < name.length() ? name.charAt(k) - 96 : 0;
    }

    int coat(int c, int what) {
      if (!coat(c)) return -1;
      Coat x = now.coats.get(c);
      Man m = now.wearer(x);
      int[] all = {x.size, x.pay, x.lining, x.burnt ? 1 : 0, m == null ? -1 : now.men.indexOf(m)};
      return what >= 0 && what < 5 ? all[what] : -1;
    }

    int man(int m, int what) {
      if (!man(m)) return -1;
      Man x = now.men.get(m);
      int[] all = {x.size, x.age, now.coatOf(m), x.purse, x.there ? 1 : 0};
      return what >= 0 && what < 5 ? all[what] : -1;
    }

    long warms(int m, int c) {
      if (!man(m) || !coat(c)) return -1000000000000000L;
      return now.warmth(now.men.get(m).size, now.men.get(m).age, now.coats.get(c));
    }

    int later(int m, int n) { return man(m) && comes(n, 0, 40) ? now.after(n).coatOf(m) : -1; }
    int purse(int m, int n) { return man(m) && comes(n, 0, 40) ? now.after(n).men.get(m).purse : -1; }

    int goes(int m) {
      if (!there(m)) return -1;
      for (int k = 0; k < 40 && now.year + k + 1 <= 999; k++) if (!now.after(k + 1).men.get(m).there) return k;
      return -1;
    }

    long bestSum;
    int[] bestRow;

    void rows(int m, int[] row, long sum) {
      if (m == row.length) {
        if (bestRow == null || sum > bestSum) { bestSum = sum; bestRow = row.clone(); }
        return;
      }
      row[m] = -1;
      rows(m + 1, row, sum);
      if (!now.men.get(m).there) return;
      for (int c = 0; c < now.coats.size(); c++) {
        boolean taken = now.coats.get(c).burnt;
        for (int k = 0; k < m; k++) taken |= row[k] == c;
        long w = warms(m, c);
        if (taken || w <= 0) continue;
        row[m] = c;
        rows(m + 1, row, sum + w);
      }
      row[m] = -1;
    }

    int match(int m) {
      if (m != -1 && !man(m)) return -1;
      bestRow = null;
      rows(0, new int[now.men.size()], 0);
      return m == -1 ? (int) bestSum : bestRow[m];
    }

    int glad(int what) {
      List<int[]> pairs = new ArrayList<>();
      for (int a = 0; a < now.men.size(); a++) {
        for (int b = a + 1; b < now.men.size(); b++) {
          if (now.coatOf(a) < 0 || now.coatOf(b) < 0) continue;
          if (warms(a, now.coatOf(b)) > warms(a, now.coatOf(a)) && warms(b, now.coatOf(a)) > warms(b, now.coatOf(b))) pairs.add(new int[] {a, b});
        }
      }
      if (what == 0) return pairs.size();
      return what < 0 || what > 2 || pairs.isEmpty() ? -1 : pairs.get(0)[what - 1];
    }

    /** All rows of so many changes, by their order, until one ends well. */
    List<Integer> search(World w, int m, int c, int n) {
      if (n == 0) return w.coatOf(m) == c ? new ArrayList<>() : null;
      for (int a = 0; a < w.men.size(); a++) {
        for (int b = a + 1; b < w.men.size(); b++) {
          World v = w.copy();
          Man x = v.men.get(a), y = v.men.get(b);
          if (!x.there || !y.there || x.coat == null && y.coat == null) continue;
          long before = v.warmth(x), beforeToo = v.warmth(y);
          v.change(x, y);
          if (v.warmth(x) < before || v.warmth(y) < beforeToo) continue;
          List<Integer> rest = search(v, m, c, n - 1);
          if (rest != null) { rest.add(0, 8 * a + b); return rest; }
        }
      }
      return null;
    }

    int passes(int m, int c, int k) {
      if (!there(m) || !coat(c)) return -1;
      for (int n = 0; n <= 3; n++) {
        List<Integer> row = search(now, m, c, n);
        if (row != null) return k == -1 ? n : k >= 0 && k < n ? row.get(k) : -1;
      }
      return -1;
    }

    int waits(int m, int n) {
      if (!there(m) || now.coatOf(m) >= 0 || !comes(n, 1, 20)) return -1;
      int best = -1, most = -1;
      for (int w = 0; w <= n; w++) {
        World x = now.copy();
        for (int k = 0; k < n; k++) x.step(k < w ? m : -1);
        if (x.men.get(m).purse > most) { most = x.men.get(m).purse; best = w; }
      }
      return best;
    }

    int called(int size, int age) {
      if (size < 1 || size > 99 || age < 0 || age > 99) return -1;
      Coat c = now.warmest(size, age);
      return c == null ? -1 : now.coats.indexOf(c);
    }

    int see(byte[] b) {
      List<int[]> rows = new ArrayList<>();
      if (b.length % 3 != 0 || b.length == 0 || b.length > 48) return refuse(5);
      for (int k = 0; k < b.length; k += 3) {
        int[] row = {b[k] & 255, b[k + 1] & 255, b[k + 2] & 255};
        if (row[0] > 30 || !man(row[1]) || row[2] != 255 && !coat(row[2])) return refuse(5);
        if (row[2] == 255) row[2] = -1;
        rows.add(row);
      }
      seen = rows;
      return rows.size();
    }

    World told(int m, int c) {
      World w = now.copy();
      w.men.get(m).coat = c < 0 ? null : w.coats.get(c);
      return w;
    }

    List<Integer> left(int m) {
      List<Integer> all = new ArrayList<>();
      for (int c = -1; c < now.coats.size(); c++) {
        if (c >= 0 && now.coatOf(m) != c && !now.pegged(now.coats.get(c))) continue;
        boolean fits = true;
        for (int[] row : seen) fits = fits && now.year + row[0] <= 999 && told(m, c).after(row[0]).coatOf(row[1]) == row[2];
        if (fits) all.add(c);
      }
      return all;
    }

    int had(int m) {
      if (!there(m)) return -1;
      int bits = 0;
      for (int c : left(m)) bits += 1 << c + 1;
      return bits;
    }

    int tells(int m, int what) {
      if (!there(m)) return -1;
      List<Integer> left = left(m);
      int[] best = {-1, -1, -1};
      List<World> worlds = new ArrayList<>();
      for (int c : left) worlds.add(told(m, c));
      for (int y = 1; y <= 30 && now.year + y <= 999 && !left.isEmpty(); y++) {
        for (World w : worlds) w.step(-1);
        for (int k = 0; k < now.men.size(); k++) {
          Map<Integer, Integer> count = new HashMap<>();
          for (World w : worlds) count.merge(w.coatOf(k), 1, Integer::sum);
          int most = count.values().stream().max(Integer::compare).get();
          if (best[0] == -1 || most < best[2]) best = new int[] {y, k, most};
        }
      }
      return what < 0 || what > 2 ? -1 : best[what];
    }

    void save() { past.addLast(now.copy()); if (past.size() > 20) past.removeFirst(); }

    int keep() {
      int year = now.year;
      now.step(-1);
      now.kept.add(new int[] {year, now.lastPut, now.lastWent});
      return now.lastPut;
    }

    int years(int n) {
      if (!comes(n, 1, 40)) return refuse(2);
      save();
      int count = 0;
      for (int k = 0; k < n; k++) count += keep();
      return count;
    }

    int draw(int m) { seed = (1103515245L * seed + 12345L) % (1L << 31); return (int) (seed / 64 % m); }

    int chance(int n) {
      if (!comes(n, 1, 40)) return refuse(2);
      save();
      int count = 0;
      for (int k = 0; k < n; k++) {
        if (draw(100) < now.fire && !now.coats.isEmpty()) {
          Coat c = now.coats.get(draw(now.coats.size()));
          if (!c.burnt) {
            count++;
            c.burnt = true;
            if (now.wearer(c) != null) now.wearer(c).coat = null;
          }
        }
        keep();
      }
      return count;
    }

    boolean no(int kind) { refused[kind]++; return false; }

    boolean pass(int a, int b) {
      if (!there(a) || !there(b) || a == b || now.coatOf(a) < 0 && now.coatOf(b) < 0) return no(3);
      save();
      now.change(now.men.get(a), now.men.get(b));
      return true;
    }

    boolean put(int m, int c) {
      if (!there(m) || now.coatOf(m) >= 0 || !coat(c) || !now.pegged(now.coats.get(c))) return no(3);
      save();
      now.wear(now.men.get(m), now.coats.get(c));
      return true;
    }

    boolean hang(int m) {
      if (!man(m) || now.coatOf(m) < 0) return no(3);
      save();
      now.men.get(m).coat = null;
      return true;
    }

    boolean undo() {
      if (past.isEmpty()) return no(4);
      now = past.removeLast();
      return true;
    }

    boolean seed(int s) { if (s < 0) return no(5); seed = s; return true; }

    int kept(int k, int what) {
      int n = Math.min(40, now.kept.size());
      return k < 0 || k >= n || what < 0 || what > 2 ? -1 : now.kept.get(now.kept.size() - n + k)[what];
    }

    static int check(byte[] b, int n) {
      int c = 233;
      for (int k = 0; k < n; k++) c = (5 * c + (b[k] & 255)) % 251;
      return c;
    }

    byte[] draw(World w) {
      List<Integer> all = new ArrayList<>(List.of(w.year / 256, w.year % 256));
      for (Coat c : w.coats) all.addAll(List.of(c.burnt ? 1 : 0, c.lining));
      for (int k = 0; k < w.men.size(); k++) {
        Man m = w.men.get(k);
        all.addAll(List.of(m.size, m.age, w.coatOf(k) & 255, m.purse / 256, m.purse % 256, m.there ? 1 : 0));
      }
      byte[] b = new byte[all.size() + 1];
      for (int k = 0; k < all.size(); k++) b[k] = (byte) (int) all.get(k);
      b[all.size()] = (byte) check(b, all.size());
      return b;
    }

    boolean on(byte[] b) {
      int n = 2 + 2 * now.coats.size() + 6 * now.men.size();
      if (b.length != n + 1 || (b[n] & 255) != check(b, n)) return no(5);
      World w = now.copy();
      w.kept.clear();
      w.year = (b[0] & 255) * 256 + (b[1] & 255);
      boolean good = w.year <= 999;
      int at = 2;
      for (Coat c : w.coats) {
        good &= b[at] == 0 || b[at] == 1;
        c.burnt = b[at++] == 1;
        c.lining = b[at++] & 255;
        good &= c.lining <= 99;
      }
      for (Man m : w.men) m.coat = null;
      for (Man m : w.men) {
        m.size = b[at] & 255;
        m.age = b[at + 1] & 255;
        m.purse = (b[at + 3] & 255) * 256 + (b[at + 4] & 255);
        m.there = b[at + 5] == 1;
        good &= m.size >= 1 && m.size <= 99 && m.age <= 99 && m.purse <= 9999 && (b[at + 5] == 0 || b[at + 5] == 1);
        int c = b[at + 2] & 255;
        if (c != 255) {
          if (!coat(c) || !m.there || w.coats.get(c).burnt || w.wearer(w.coats.get(c)) != null) return no(5);
          m.coat = w.coats.get(c);
        }
        at += 6;
      }
      if (!good) return no(5);
      now = w;
      past.clear();
      return true;
    }
  }

  // ---- the player

  private static final class Player {
    final int run;
    final Random r;
    final PegCoats x = new PegCoats();
    final Model m = new Model();
    final int[] faults;

    Player(int run, int[] faults) { this.run = run; this.r = new Random(run); this.faults = faults; }

    void play() {
      int n = 60 + r.nextInt(200);
      read();
      for (int k = 0; k < n && wrong < 20; k++) {
        if (r.nextInt(60) == 0) read();
        else if (r.nextInt(3) == 0) act();
        else if (r.nextInt(12) == 0) picture();
        else ask();
      }
    }

    void is(String call, long got, long want) { due(run, call, got, want); }

    int coat() { return r.nextInt(10) - 1; }
    int man() { return r.nextInt(12) == 0 ? r.nextInt(9) - 1 : r.nextInt(Math.max(1, m.now.men.size())); }
    int years() { return r.nextInt(6) == 0 ? r.nextInt(44) - 1 : r.nextInt(6); }

    void read() {
      String text = Texts.works(r);
      if (r.nextInt(8) == 0) text = Texts.breakIt(r, text);
      if (text.length() > 1600) return;
      byte[] b = Texts.bytes(text);
      feed(x, b);
      int want = m.works(b);
      is("works() of " + text, x.works(), want);
      is("fault(0)", x.fault(0), m.fault);
      is("fault(1)", x.fault(1), m.place);
      faults[m.fault]++;
      for (int kind = 0; kind < 2; kind++) {
        for (int k = 0; k < 9; k++) {
          int i = r.nextInt(8) - 1;
          is("letter(" + kind + ", " + k + ", " + i + ")", x.letter(kind, k, i), m.letter(kind, k, i));
        }
      }
    }

    void act() {
      int a = man(), b = man(), c = coat(), n = years();
      switch (r.nextInt(8)) {
        case 0: is("years(" + n + ")", x.years(n), m.years(n)); break;
        case 1: is("chance(" + n + ")", x.chance(n), m.chance(n)); break;
        case 2: is("pass(" + a + ", " + b + ")", x.pass(a, b) ? 1 : 0, m.pass(a, b) ? 1 : 0); break;
        case 3: is("put(" + a + ", " + c + ")", x.put(a, c) ? 1 : 0, m.put(a, c) ? 1 : 0); break;
        case 4: is("hang(" + a + ")", x.hang(a) ? 1 : 0, m.hang(a) ? 1 : 0); break;
        case 5: is("undo()", x.undo() ? 1 : 0, m.undo() ? 1 : 0); break;
        case 6: int s = r.nextInt(); is("seed(" + s + ")", x.seed(s) ? 1 : 0, m.seed(s) ? 1 : 0); break;
        default: see(); break;
      }
      look();
    }

    void see() {
      int n = r.nextInt(10) == 0 ? r.nextInt(52) : 3 * (1 + r.nextInt(2));
      byte[] b = new byte[n];
      for (int k = 0; k < n; k++) {
        b[k] = (byte) (k % 3 == 0 ? (r.nextInt(9) == 0 ? r.nextInt(33) : r.nextInt(4)) : k % 3 == 1 ? man() : r.nextInt(3) == 0 ? 255 : coat());
        if (k % 3 == 2 && r.nextInt(2) == 0 && m.man(b[k - 1]) && m.comes(b[k - 2], 0, 30)) b[k] = (byte) m.later(b[k - 1], b[k - 2]);
      }
      feed(x, b);
      int want = m.see(b);
      is("see()", x.see(), want);
    }

    void picture() {
      byte[] b = m.draw(m.now);
      is("image()", x.image(), b.length);
      for (int k = -1; k <= b.length; k++) is("octet(" + k + ")", x.octet(k), k < 0 || k >= b.length ? -1 : b[k] & 255);
      int n = b.length;
      int changes = r.nextInt(4);
      for (int k = 0; k < changes; k++) b[r.nextInt(n)] = (byte) (r.nextInt(3) == 0 ? r.nextInt(256) : r.nextInt(10));
      if (r.nextInt(5) == 0) { b[0] = 3; b[1] = (byte) (190 + r.nextInt(44)); }
      if (r.nextInt(6) != 0) b[n - 1] = (byte) Model.check(b, n - 1);
      if (r.nextInt(12) == 0) b = Arrays.copyOf(b, r.nextInt(n + 3));
      feed(x, b);
      boolean want = m.on(b);
      is("on()", x.on() ? 1 : 0, want ? 1 : 0);
      look();
    }

    void look() {
      byte[] b = m.draw(m.now);
      is("image()", x.image(), b.length);
      for (int k = 0; k < b.length; k++) is("octet(" + k + ")", x.octet(k), b[k] & 255);
      for (int k = -1; k < 12; k++) is("has(" + k + ")", x.has(k), m.has(k));
      for (int k = -1; k < 7; k++) is("status(" + k + ")", x.status(k), k < 0 || k > 5 ? -1 : m.refused[k]);
    }

    void ask() {
      int a = man(), c = coat(), n = years(), k = r.nextInt(7) - 1;
      switch (r.nextInt(14)) {
        case 0: is("coat(" + c + ", " + k + ")", x.coat(c, k), m.coat(c, k)); break;
        case 1: is("man(" + a + ", " + k + ")", x.man(a, k), m.man(a, k)); break;
        case 2: is("warms(" + a + ", " + c + ")", x.warms(a, c), m.warms(a, c)); break;
        case 3: is("later(" + a + ", " + n + ")", x.later(a, n), m.later(a, n)); break;
        case 4: is("purse(" + a + ", " + n + ")", x.purse(a, n), m.purse(a, n)); break;
        case 5: is("goes(" + a + ")", x.goes(a), m.goes(a)); break;
        case 6:
          if (m.now.men.size() * m.now.coats.size() > 30) break;
          for (int i = -2; i < 8; i++) is("match(" + i + ")", x.match(i), m.match(i));
          break;
        case 7: for (int i = -1; i < 4; i++) is("glad(" + i + ")", x.glad(i), m.glad(i)); break;
        case 8: for (int i = -2; i < 4; i++) is("passes(" + a + ", " + c + ", " + i + ")", x.passes(a, c, i), m.passes(a, c, i)); break;
        case 9: is("waits(" + a + ", " + n + ")", x.waits(a, n), m.waits(a, n)); break;
        case 10:
          int size = r.nextInt(102) - 1, age = r.nextInt(102) - 1;
          is("called(" + size + ", " + age + ")", x.called(size, age), m.called(size, age));
          break;
        case 11: is("had(" + a + ")", x.had(a), m.had(a)); break;
        case 12: for (int i = -1; i < 4; i++) is("tells(" + a + ", " + i + ")", x.tells(a, i), m.tells(a, i)); break;
        default:
          int i = r.nextInt(43) - 1;
          for (int w = -1; w < 4; w++) is("kept(" + i + ", " + w + ")", x.kept(i, w), m.kept(i, w));
          break;
      }
    }
  }
}
