import java.math.BigInteger;
import java.util.ArrayList;
import java.util.HashSet;
import java.util.LinkedList;
import java.util.List;
import java.util.Set;

// All small programs, and long runs of calls, on CycleBounds and on a second program that is written
// from the document in another way: it writes every run down as a list of choices and a list of leaves, and uses
// recursion and the Java library. Every answer must be the same.
public final class ReferenceTests {

  private static final class Statement {
    int number;
    char kind;
    int value;
    int lo;
    int hi;
    Statement a;
    Statement b;
  }

  private static final class Run {
    final List<Integer> choices = new ArrayList<>();
    final List<Statement> leaves = new ArrayList<>();
    int roundCount;
    // Filled in when the run is done.
    int time;
    List<LinkedList<Integer>> cache;
    final int[] misses = new int[18];
    final int[] hits = new int[18];

    Run and(Run next) {
      Run both = new Run();
      both.choices.addAll(choices);
      both.choices.addAll(next.choices);
      both.leaves.addAll(leaves);
      both.leaves.addAll(next.leaves);
      both.roundCount = roundCount + next.roundCount;
      return both;
    }

    static Run choosing(int choice) {
      Run run = new Run();
      run.choices.add(choice);
      return run;
    }
  }

  private static final class Reference {
    final int sets;
    final int places;
    final List<Statement> stack = new ArrayList<>();
    int made;
    Statement[] accesses;
    List<Run> runs;
    int greatest;
    Run firstGreatest;
    int tableBound;
    int[] come;
    int[] comeSure;

    Reference(int setsWanted, int placesWanted) {
      sets = setsWanted <= 0 ? 1 : setsWanted == 1 ? 2 : 4;
      places = Math.max(1, Math.min(4, placesWanted));
      work(0);
      program();
    }

    int push(char kind, int value) {
      Statement s = new Statement();
      s.kind = kind;
      s.value = value;
      s.number = made++;
      stack.add(s);
      return s.number;
    }

    Statement pop() {
      return stack.remove(stack.size() - 1);
    }

    int access(int m) {
      if (m < 0 || m > 11) return -1;
      return made == 18 ? -2 : push('a', m);
    }

    int work(int c) {
      if (c < 0 || c > 50) return -1;
      return made == 18 ? -2 : push('w', c);
    }

    int join(int op) {
      if (op < 0 || op > 1) return -1;
      if (made == 18) return -2;
      if (stack.size() < 2) return -3;
      Statement b = pop();
      Statement a = pop();
      int number = push(op == 0 ? ';' : '?', 0);
      Statement s = stack.get(stack.size() - 1);
      s.a = a;
      s.b = b;
      return number;
    }

    int loop(int lo, int hi) {
      if (lo < 0 || lo > 4 || hi < lo || hi > 4) return -1;
      if (made == 18) return -2;
      if (stack.isEmpty()) return -3;
      Statement a = pop();
      int number = push('l', 0);
      Statement s = stack.get(stack.size() - 1);
      s.a = a;
      s.lo = lo;
      s.hi = hi;
      return number;
    }

    int depth() {
      return stack.size();
    }

    int discard() {
      int size = stack.size();
      stack.clear();
      made = 0;
      return size;
    }

    static BigInteger big(long n) {
      return BigInteger.valueOf(n);
    }

    static BigInteger paths(Statement s) {
      if (s.kind == 'a' || s.kind == 'w') return BigInteger.ONE;
      if (s.kind == ';') return paths(s.a).multiply(paths(s.b));
      if (s.kind == '?') return paths(s.a).add(paths(s.b));
      BigInteger of = paths(s.a);
      BigInteger sum = BigInteger.ZERO;
      for (int i = s.lo; i <= s.hi; i++) sum = sum.add(of.pow(i));
      return sum;
    }

    static BigInteger length(Statement s) {
      if (s.kind == 'a' || s.kind == 'w') return BigInteger.ONE;
      if (s.kind == ';') return length(s.a).add(length(s.b));
      if (s.kind == '?') return length(s.a).max(length(s.b));
      return length(s.a).add(BigInteger.ONE).multiply(big(s.hi));
    }

    static BigInteger choices(Statement s) {
      if (s.kind == 'a' || s.kind == 'w') return BigInteger.ZERO;
      if (s.kind == ';') return choices(s.a).add(choices(s.b));
      if (s.kind == '?') return choices(s.a).max(choices(s.b)).add(BigInteger.ONE);
      return choices(s.a).multiply(big(s.hi)).add(big(s.lo < s.hi ? 1 : 0));
    }

    static List<Run> runsOf(Statement s) {
      List<Run> all = new ArrayList<>();
      if (s.kind == 'a' || s.kind == 'w') {
        Run run = new Run();
        run.leaves.add(s);
        all.add(run);
      } else if (s.kind == ';') {
        all.addAll(pairs(runsOf(s.a), runsOf(s.b)));
      } else if (s.kind == '?') {
        for (Run run : runsOf(s.a)) all.add(Run.choosing(0).and(run));
        for (Run run : runsOf(s.b)) all.add(Run.choosing(1).and(run));
      } else if (s.hi == 0) {
        all.add(new Run());
      } else {
        List<Run> round = runsOf(s.a);
        for (Run run : round) run.roundCount++;
        List<Run> rounds = new ArrayList<>();
        rounds.add(new Run());
        for (int i = 0; i <= s.hi; i++) {
          if (i >= s.lo) {
            for (Run run : rounds) all.add(s.lo < s.hi ? Run.choosing(i).and(run) : run);
          }
          if (i < s.hi) rounds = pairs(rounds, round);
        }
      }
      return all;
    }

    static List<Run> pairs(List<Run> before, List<Run> after) {
      List<Run> all = new ArrayList<>();
      for (Run x : before) for (Run y : after) all.add(x.and(y));
      return all;
    }

    int program() {
      if (stack.size() != 1) return -3;
      Statement root = stack.get(0);
      if (paths(root).compareTo(big(150)) > 0) return -5;
      if (length(root).compareTo(big(120)) > 0) return -5;
      if (choices(root).compareTo(big(20)) > 0) return -5;
      runs = runsOf(root);
      for (Run run : runs) perform(run);
      greatest = 0;
      for (Run run : runs) greatest = Math.max(greatest, run.time);
      firstGreatest = null;
      for (Run run : runs) {
        if (run.time == greatest && (firstGreatest == null || isBefore(run, firstGreatest))) {
          firstGreatest = run;
        }
      }
      accesses = new Statement[18];
      collect(root);
      come = new int[18];
      comeSure = new int[18];
      int[] table = new int[12];
      for (int m = 0; m < 12; m++) table[m] = places;
      tableBound = pass(root, table);
      int size = made;
      discard();
      return size;
    }

    static boolean isBefore(Run x, Run y) {
      for (int k = 0; k < x.choices.size() && k < y.choices.size(); k++) {
        int difference = x.choices.get(k) - y.choices.get(k);
        if (difference != 0) return difference < 0;
      }
      return false;
    }

    void collect(Statement s) {
      if (s == null) return;
      if (s.kind == 'a') accesses[s.number] = s;
      collect(s.a);
      collect(s.b);
    }

    void perform(Run run) {
      run.cache = new ArrayList<>();
      for (int i = 0; i < sets; i++) run.cache.add(new LinkedList<>());
      for (Statement leaf : run.leaves) {
        if (leaf.kind == 'w') {
          run.time += leaf.value;
          continue;
        }
        LinkedList<Integer> set = run.cache.get(leaf.value % sets);
        boolean held = set.remove((Integer) leaf.value);
        if (!held && set.size() == places) set.removeLast();
        set.addFirst(leaf.value);
        run.time += held ? 1 : 10;
        if (held) run.hits[leaf.number]++; else run.misses[leaf.number]++;
      }
    }

    // Changes the table into the one behind the statement, and answers the statement's bound.
    int pass(Statement s, int[] table) {
      if (s.kind == 'w') return s.value;
      if (s.kind == 'a') {
        int age = table[s.value];
        for (int line = 0; line < 12; line++) {
          if (line % sets == s.value % sets && table[line] < age) table[line]++;
        }
        table[s.value] = 0;
        come[s.number]++;
        if (age < places) comeSure[s.number]++;
        return age < places ? 1 : 10;
      }
      if (s.kind == ';') {
        int boundOfA = pass(s.a, table);
        return boundOfA + pass(s.b, table);
      }
      if (s.kind == '?') {
        int[] other = table.clone();
        int boundOfA = pass(s.a, table);
        int boundOfB = pass(s.b, other);
        for (int m = 0; m < 12; m++) table[m] = Math.max(table[m], other[m]);
        return Math.max(boundOfA, boundOfB);
      }
      int[][] tables = new int[s.hi + 1][];
      tables[0] = table.clone();
      int sum = 0;
      for (int i = 0; i < s.hi; i++) {
        tables[i + 1] = tables[i].clone();
        sum += pass(s.a, tables[i + 1]);
      }
      for (int m = 0; m < 12; m++) {
        table[m] = 0;
        for (int i = s.lo; i <= s.hi; i++) table[m] = Math.max(table[m], tables[i][m]);
      }
      return sum;
    }

    int paths() {
      Set<List<Integer>> rows = new HashSet<>();
      for (Run run : runs) rows.add(run.choices);
      return rows.size();
    }

    int length() {
      int most = 0;
      for (Run run : runs) most = Math.max(most, run.leaves.size() + run.roundCount);
      return most;
    }

    int worst() {
      return greatest;
    }

    int best() {
      int least = Integer.MAX_VALUE;
      for (Run run : runs) least = Math.min(least, run.time);
      return least;
    }

    int worstRuns() {
      int count = 0;
      for (Run run : runs) if (run.time == greatest) count++;
      return count;
    }

    int choice(int k) {
      return k < 0 || k >= firstGreatest.choices.size() ? -4 : firstGreatest.choices.get(k);
    }

    boolean lacks(int number) {
      return number < 0 || number > 17 || accesses[number] == null;
    }

    int sure(int number) {
      if (lacks(number)) return -4;
      return come[number] > 0 && come[number] == comeSure[number] ? 1 : 0;
    }

    int misses(int number) {
      if (lacks(number)) return -4;
      int most = 0;
      for (Run run : runs) most = Math.max(most, run.misses[number]);
      return most;
    }

    int hits(int number) {
      if (lacks(number)) return -4;
      int most = 0;
      for (Run run : runs) most = Math.max(most, run.hits[number]);
      return most;
    }

    int fewest(int number) {
      if (lacks(number)) return -4;
      int least = Integer.MAX_VALUE;
      for (Run run : runs) least = Math.min(least, run.misses[number]);
      return least;
    }

    int ends() {
      Set<List<LinkedList<Integer>>> different = new HashSet<>();
      for (Run run : runs) different.add(run.cache);
      return different.size();
    }

    int holds(int m) {
      if (m < 0 || m > 11) return -1;
      int count = 0;
      for (Run run : runs) if (run.cache.get(m % sets).contains(m)) count++;
      return count;
    }
  }

  private static final String[] LEAVES = {"a0", "a1", "a2", "w5"};
  private static final String[] LOOPS = {"l00", "l01", "l02", "l12", "l22", "l33"};
  private static final int[][] CACHES = {{0, 1}, {0, 2}, {0, 3}, {1, 1}, {2, 1}};
  private static final int SMALL = 4;

  private static final int CALLS = 512;
  private static final int OBJECTS = 6000;

  private static int wrong = 0;
  private static int programs = 0;
  private static int tooMany = 0;
  private static int boundAbove = 0;
  private static long state;

  private final CycleBounds x;
  private final Reference y;
  private final StringBuilder story = new StringBuilder();
  private int calls = 0;

  private ReferenceTests(int sets, int places) {
    x = new CycleBounds(sets, places);
    y = new Reference(sets, places);
    story.append("new(").append(sets).append(", ").append(places).append(")");
  }

  // The same numbers in every run of this test.
  private static int below(int n) {
    state = state * 6364136223846793005L + 1442695040888963407L;
    return (int) ((state >>> 33) % n);
  }

  private void same(String call, int got, int want) {
    calls++;
    if (got != want && wrong++ < 20) {
      System.out.println(story + " " + call + " answered " + got + ", due is " + want);
    }
  }

  private void makeOne(int lines) {
    int what = below(100);
    if (what < 34) {
      int m = below(40) == 0 ? below(20) - 4 : below(lines);
      same("access", x.access(m), y.access(m));
      story.append(" a").append(m);
    } else if (what < 42) {
      int c = below(20) == 0 ? below(60) - 4 : below(12);
      same("work", x.work(c), y.work(c));
      story.append(" w").append(c);
    } else if (what < 78) {
      int op = below(60) == 0 ? below(6) - 2 : below(2);
      same("join", x.join(op), y.join(op));
      story.append(" j").append(op);
    } else if (what < 92) {
      int lo = below(40) == 0 ? below(8) - 2 : below(3);
      int hi = below(40) == 0 ? below(8) - 2 : Math.min(4, lo + below(3));
      same("loop", x.loop(lo, hi), y.loop(lo, hi));
      story.append(" l").append(lo).append(',').append(hi);
    } else if (what < 93) {
      same("discard", x.discard(), y.discard());
      story.append(" discard");
    } else {
      makeProgram();
    }
    same("depth", x.depth(), y.depth());
  }

  private void makeProgram() {
    int got = x.program();
    same("program", got, y.program());
    story.append(" program");
    if (got == -5) tooMany++;
    if (got > 0) programs++;
    if (got > 0 || below(8) == 0) askAll();
  }

  // Brings a full stack down to one statement, so that greater programs come up too.
  private void finish() {
    int op = below(3) == 0 ? 1 : 0;
    for (int i = 0; i < 18 && y.depth() > 1; i++) {
      same("join", x.join(op), y.join(op));
      story.append(" j").append(op);
    }
    makeProgram();
  }

  private void askAll() {
    same("paths", x.paths(), y.paths());
    same("length", x.length(), y.length());
    same("worst", x.worst(), y.worst());
    same("best", x.best(), y.best());
    same("worstRuns", x.worstRuns(), y.worstRuns());
    same("bound", x.bound(), y.tableBound);
    same("ends", x.ends(), y.ends());
    if (x.bound() > x.worst()) boundAbove++;
    for (int k = -1; k < 22; k++) same("choice " + k, x.choice(k), y.choice(k));
    for (int m = -1; m < 13; m++) same("holds " + m, x.holds(m), y.holds(m));
    for (int n = -1; n < 19; n++) {
      same("sure " + n, x.sure(n), y.sure(n));
      same("misses " + n, x.misses(n), y.misses(n));
      same("hits " + n, x.hits(n), y.hits(n));
      same("fewest " + n, x.fewest(n), y.fewest(n));
    }
  }

  // All programs of so many statements, each as its calls in one line.
  private static List<List<String>> smallPrograms() {
    List<List<String>> bySize = new ArrayList<>();
    bySize.add(List.of());
    bySize.add(List.of(LEAVES));
    for (int size = 2; size <= SMALL; size++) {
      List<String> all = new ArrayList<>();
      for (String a : bySize.get(size - 1)) for (String loop : LOOPS) all.add(a + " " + loop);
      for (int sizeOfA = 1; sizeOfA < size - 1; sizeOfA++) {
        for (String a : bySize.get(sizeOfA)) {
          for (String b : bySize.get(size - 1 - sizeOfA)) {
            all.add(a + " " + b + " j0");
            all.add(a + " " + b + " j1");
          }
        }
      }
      bySize.add(all);
    }
    return bySize;
  }

  private void make(String call) {
    int value = call.charAt(1) - '0';
    switch (call.charAt(0)) {
      case 'a': same(call, x.access(value), y.access(value)); break;
      case 'w': same(call, x.work(value), y.work(value)); break;
      case 'j': same(call, x.join(value), y.join(value)); break;
      default:
        int hi = call.charAt(2) - '0';
        same(call, x.loop(value, hi), y.loop(value, hi));
    }
    story.append(' ').append(call);
  }

  private static void compareSmallPrograms() {
    for (List<String> ofSize : smallPrograms()) {
      for (String calls : ofSize) {
        for (int[] cache : CACHES) {
          ReferenceTests pair = new ReferenceTests(cache[0], cache[1]);
          for (String call : calls.split(" ")) pair.make(call);
          pair.makeProgram();
        }
      }
    }
  }

  private static void compareLongRuns() {
    for (int i = 0; i < OBJECTS; i++) {
      state = i * 7919L + 17;
      ReferenceTests pair = new ReferenceTests(below(5) - 1, below(7) - 1);
      int lines = 2 + below(11);
      pair.askAll();
      while (pair.calls < CALLS - 150) {
        pair.makeOne(Math.min(lines, 12));
        if (pair.y.made >= 9 + below(10)) pair.finish();
        if (pair.y.made >= 18) pair.same("discard", pair.x.discard(), pair.y.discard());
      }
    }
  }

  public static void main(String[] args) {
    compareLongRuns();
    if (programs < OBJECTS || tooMany < 100 || boundAbove < 100) {
      wrong++;
      System.out.println("too few programs of a kind have come up");
    }
    compareSmallPrograms();
    System.out.println("reference: " + programs + " programs, " + tooMany + " refused as too many, "
        + boundAbove + " with a bound above the worst time");
    System.out.println(wrong == 0 ? "reference: all answers are as due" : wrong + " answers are not as due");
    if (wrong != 0) {
      System.exit(1);
    }
  }
}
