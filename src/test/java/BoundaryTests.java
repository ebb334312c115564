import java.util.ArrayList;
import java.util.List;
import java.util.function.ToIntFunction;

// Each sentence of the document that names a boundary case, or that holds for every run, has a test
// of its own here, which begins with the sentence: the last value that is allowed and the first that
// is not, on both sides, the least and the greatest int, and after a refused call that nothing has
// changed. The answers are worked out by hand.
public final class BoundaryTests {
  private static final int BAD_ARG = -1;
  private static final int FULL = -2;
  private static final int TOO_FEW = -3;
  private static final int NONE = -4;
  private static final int TOO_MANY = -5;
  private static final int LEAST = Integer.MIN_VALUE;
  private static final int MOST = Integer.MAX_VALUE;
  private static final int MOST_CALLS = 512;
  private static final int MOST_TOLD = 50;

  private static String sentence = "";
  private static int sentences = 0;
  private static int wrong = 0;

  private static void says(String words) {
    sentence = words;
    sentences++;
  }

  private static void fault(String what) {
    if (wrong++ < MOST_TOLD) {
      System.out.println("\"" + sentence + "\": " + what);
    }
  }

  // An object of the class with the story of its calls. Every call tells the answer that is due.
  private static final class Box {
    private final CycleBounds x;
    private final StringBuilder story = new StringBuilder();
    private int calls = 0;

    Box(int sets, int places) {
      x = new CycleBounds(sets, places);
      story.append("new(" + sets + ", " + places + ")");
    }

    private int note(String call, int answer) {
      calls++;
      story.append(", " + call + " = " + answer);
      if (calls == MOST_CALLS + 1) {
        fault("the test itself makes more than 512 calls: " + story);
      }
      return answer;
    }

    private Box due(String call, int answer, int want) {
      note(call, answer);
      if (answer != want) {
        fault(story + ", due is " + want);
      }
      return this;
    }

    Box access(int m, int want) { return due("access(" + m + ")", x.access(m), want); }
    Box work(int c, int want) { return due("work(" + c + ")", x.work(c), want); }
    Box join(int op, int want) { return due("join(" + op + ")", x.join(op), want); }
    Box loop(int lo, int hi, int want) {
      return due("loop(" + lo + ", " + hi + ")", x.loop(lo, hi), want);
    }
    Box depth(int want) { return due("depth", x.depth(), want); }
    Box discard(int want) { return due("discard", x.discard(), want); }
    Box program(int want) { return due("program", x.program(), want); }
    Box paths(int want) { return due("paths", x.paths(), want); }
    Box length(int want) { return due("length", x.length(), want); }
    Box worst(int want) { return due("worst", x.worst(), want); }
    Box best(int want) { return due("best", x.best(), want); }
    Box worstRuns(int want) { return due("worstRuns", x.worstRuns(), want); }
    Box choice(int k, int want) { return due("choice(" + k + ")", x.choice(k), want); }
    Box bound(int want) { return due("bound", x.bound(), want); }
    Box sure(int n, int want) { return due("sure(" + n + ")", x.sure(n), want); }
    Box misses(int n, int want) { return due("misses(" + n + ")", x.misses(n), want); }
    Box hits(int n, int want) { return due("hits(" + n + ")", x.hits(n), want); }
    Box fewest(int n, int want) { return due("fewest(" + n + ")", x.fewest(n), want); }
    Box ends(int want) { return due("ends", x.ends(), want); }
    Box holds(int m, int want) { return due("holds(" + m + ")", x.holds(m), want); }

    Box choices(int... want) {
      for (int k = 0; k < want.length; k++) {
        choice(k, want[k]);
      }
      return choice(want.length, NONE);
    }

    Box of(int number, int sure, int misses, int hits, int fewest) {
      return sure(number, sure).misses(number, misses).hits(number, hits).fewest(number, fewest);
    }

    Box noAccess(int number) {
      return of(number, NONE, NONE, NONE, NONE);
    }

    // Calls in one line: "a3" access, "w5" work, ";" seq, "?" if, "l03" loop 0 3, "p" program,
    // "d" discard, "" nothing. None of them may be refused.
    Box make(String calls) {
      for (String call : calls.split(" ")) {
        if (!call.isEmpty() && note(call, answer(call)) < 0) {
          fault(story + ", which should not be refused");
        }
      }
      return this;
    }

    private int answer(String call) {
      switch (call.charAt(0)) {
        case 'a': return x.access(Integer.parseInt(call.substring(1)));
        case 'w': return x.work(Integer.parseInt(call.substring(1)));
        case ';': return x.join(0);
        case '?': return x.join(1);
        case 'l': return x.loop(call.charAt(1) - '0', call.charAt(2) - '0');
        case 'd': return x.discard();
        default: return x.program();
      }
    }

    // Everything that can be asked.
    List<Integer> state() {
      List<Integer> all = new ArrayList<>();
      all.add(note("depth", x.depth()));
      all.add(note("paths", x.paths()));
      all.add(note("length", x.length()));
      all.add(note("worst", x.worst()));
      all.add(note("best", x.best()));
      all.add(note("worstRuns", x.worstRuns()));
      all.add(note("bound", x.bound()));
      all.add(note("ends", x.ends()));
      for (int k = 0; k < 21; k++) {
        all.add(note("choice(" + k + ")", x.choice(k)));
      }
      for (int n = 0; n < 18; n++) {
        all.add(note("sure(" + n + ")", x.sure(n)));
        all.add(note("misses(" + n + ")", x.misses(n)));
        all.add(note("hits(" + n + ")", x.hits(n)));
        all.add(note("fewest(" + n + ")", x.fewest(n)));
      }
      for (int m = 0; m < 12; m++) {
        all.add(note("holds(" + m + ")", x.holds(m)));
      }
      return all;
    }

    Box isWorkZero() {
      paths(1).length(1).worst(0).best(0).worstRuns(1).bound(0).ends(1).choices();
      for (int n = 0; n < 18; n++) {
        noAccess(n);
      }
      for (int m = 0; m < 12; m++) {
        holds(m, 0);
      }
      return this;
    }
  }

  private static Box empty() {
    return new Box(0, 2);
  }

  private static Box with(int sets, int places, String calls) {
    return new Box(sets, places).make(calls);
  }

  private static String times(int count, String call) {
    StringBuilder calls = new StringBuilder();
    for (int i = 0; i < count; i++) {
      calls.append(' ').append(call);
    }
    return calls.toString();
  }

  // So many statements are made, and all are on the stack.
  private static Box spread(int count) {
    return with(0, 2, times(count, "w1").trim());
  }

  // So many statements are made, and one is on the stack, of which the others are parts.
  private static Box nested(int count) {
    return with(0, 2, "w1" + times(count - 1, "l11"));
  }

  // ---- What it is ----

  private static void at512Calls() {
    says("An object is used for at most 512 calls after it has been made");
    Box x = empty();
    for (int i = 0; i < 511; i++) {
      x.access(12, BAD_ARG);
    }
    x.access(0, 0);
    isAtItsLastCall(x);
    Box y = empty();
    for (int i = 0; i < 170; i++) {
      y.access(5, 0).program(1).worst(10);
    }
    y.work(3, 0).program(1);
    isAtItsLastCall(y);
    Box z = empty();
    for (int i = 0; i < 26; i++) {
      z.make(times(18, "w1").trim()).discard(18);
    }
    z.make(times(17, "w1").trim()).work(1, 17);
    isAtItsLastCall(z);
    Box w = with(0, 4, "a0 a1 ? a2 ? a3 ? a4 ? l23");
    for (int i = 0; i < 500; i++) {
      w.join(0, TOO_FEW);
    }
    w.program(10).ends(85);
    isAtItsLastCall(w);
  }

  private static void isAtItsLastCall(Box x) {
    if (x.calls != MOST_CALLS) {
      fault("the test itself makes " + x.calls + " calls");
    }
  }

  // ---- Terms: the cache ----

  private static final int[] SET_ARGUMENTS = {0, 1, 2};
  private static final int[] SET_COUNTS = {1, 2, 4};

  private static void linesAndSets() {
    says("There are LINES 0 to 11; line m belongs to set m modulo the number of sets");
    for (int i = 0; i < 3; i++) {
      for (int a = 0; a < 12; a++) {
        for (int b = 0; b < 12; b++) {
          boolean together = a % SET_COUNTS[i] == b % SET_COUNTS[i];
          Box x = with(SET_ARGUMENTS[i], 1, "a" + a + " a" + b + " ; p");
          x.holds(b, 1).holds(a, a == b || !together ? 1 : 0);
        }
      }
    }
  }

  private static String inTurn(int... lines) {
    StringBuilder calls = new StringBuilder("a" + lines[0]);
    for (int i = 1; i < lines.length; i++) {
      calls.append(" a" + lines[i] + " ;");
    }
    return calls + " p";
  }

  private static int[] ofSet(int set, int sets, int count) {
    int[] lines = new int[count];
    for (int i = 0; i < count; i++) {
      lines[i] = set + i * sets;
    }
    return lines;
  }

  private static void placesOfASet() {
    says("A set holds as many different lines as it has places at most");
    for (int i = 0; i < 3; i++) {
      for (int places = 1; places <= 4; places++) {
        for (int set = 0; set < SET_COUNTS[i]; set++) {
          fillsUp(i, places, set);
        }
      }
    }
    // One line takes one place, however often it comes.
    with(0, 2, inTurn(0, 1, 1, 1)).holds(0, 1).holds(1, 1).worst(22);
  }

  // All lines of a set, one by one: as many are held as there are places, and of four sets with
  // three lines each none is ever driven out of three or four places.
  private static void fillsUp(int i, int places, int set) {
    int linesOfSet = 12 / SET_COUNTS[i];
    for (int count = 1; count <= linesOfSet && count <= places + 2; count++) {
      int[] lines = ofSet(set, SET_COUNTS[i], count);
      Box x = with(SET_ARGUMENTS[i], places, inTurn(lines));
      for (int k = 0; k < count; k++) {
        x.holds(lines[k], k >= count - places ? 1 : 0);
      }
    }
  }

  private static void whatGoesFromAFullSet() {
    says("if that is full, the line goes of those that it holds whose last access is longest ago");
    // The eldest one comes again before a new one comes: the next one goes in its stead.
    with(0, 1, inTurn(0, 0, 1)).holds(0, 0).holds(1, 1);
    with(0, 2, inTurn(0, 1, 0, 2)).holds(0, 1).holds(1, 0).holds(2, 1);
    with(0, 3, inTurn(0, 1, 2, 0, 3)).holds(0, 1).holds(1, 0).holds(2, 1).holds(3, 1);
    with(0, 4, inTurn(0, 1, 2, 3, 0, 4)).holds(0, 1).holds(1, 0).holds(2, 1).holds(3, 1)
        .holds(4, 1);
    // One in the middle and the youngest come again: the eldest still goes.
    with(0, 3, inTurn(0, 1, 2, 1, 3)).holds(0, 0).holds(1, 1).holds(2, 1);
    with(0, 3, inTurn(0, 1, 2, 2, 3)).holds(0, 0).holds(1, 1).holds(2, 1);
    // Not full: none goes. Full, but the line is held: none goes.
    with(0, 4, inTurn(0, 1, 2, 3)).holds(0, 1).holds(1, 1).holds(2, 1).holds(3, 1);
    with(0, 4, inTurn(0, 1, 2, 3, 0, 1, 2, 3)).holds(0, 1).holds(1, 1).holds(2, 1).holds(3, 1);
    // A full set does not drive out the lines of another one, nor does another one's access count.
    with(1, 1, inTurn(1, 0, 2, 4)).holds(1, 1).holds(0, 0).holds(2, 0).holds(4, 1);
    with(1, 2, inTurn(0, 2, 1, 3, 5, 4)).holds(0, 0).holds(2, 1).holds(4, 1);
  }

  private static void hitsAndMisses() {
    says("An ACCESS of a line that its set holds is a HIT and takes 1 cycle; any other one is a MISS");
    with(0, 1, inTurn(0)).worst(10).of(0, 0, 1, 0, 1);
    with(0, 1, inTurn(0, 0)).worst(11).of(1, 1, 0, 1, 0);
    // With as many other lines in between as are places the line has gone, with one fewer not.
    with(0, 1, inTurn(0, 1, 0)).worst(30).of(3, 0, 1, 0, 1);
    with(0, 2, inTurn(0, 1, 0)).worst(21).of(3, 1, 0, 1, 0);
    with(0, 2, inTurn(0, 1, 2, 0)).worst(40).of(5, 0, 1, 0, 1);
    with(0, 3, inTurn(0, 1, 2, 0)).worst(31).of(5, 1, 0, 1, 0);
    with(0, 3, inTurn(0, 1, 2, 3, 0)).worst(50).of(7, 0, 1, 0, 1);
    with(0, 4, inTurn(0, 1, 2, 3, 0)).worst(41).of(7, 1, 0, 1, 0);
    with(0, 4, inTurn(0, 1, 2, 3, 4, 0)).worst(60).of(9, 0, 1, 0, 1);
  }

  private static void emptyAtTheBeginning() {
    says("The cache holds nothing when a run begins");
    with(0, 2, "w0 w0 ? a5 ; p").best(10).worst(10).worstRuns(2).of(3, 0, 1, 0, 1);
    with(0, 2, "a5 l04 p").best(0).holds(5, 4).ends(2);
    with(0, 2, "a5 p a5 p").best(10).worst(10).bound(10);
    with(0, 2, "a5 p w1 p").holds(5, 0).ends(1);
  }

  // ---- Terms: statements, choices, paths ----

  private static void numbersOfStatements() {
    says("each one that is made has a number, 0 for the first one made since the stack was last"
        + " emptied");
    Box x = empty();
    x.work(1, 0).access(1, 1).join(0, 2).work(1, 3).join(1, 4).loop(0, 1, 5).program(6);
    x.access(1, 0).work(1, 1).discard(2);
    x.work(1, 0).discard(1).discard(0).loop(0, 0, TOO_FEW).access(1, 0);
    says("a loop takes the only statement off, and that does not empty the stack by a call of"
        + " discard or program");
    empty().work(1, 0).loop(1, 1, 1).loop(1, 1, 2).work(1, 3).join(0, 4).work(1, 5);
  }

  private static void choicesOfAnIf() {
    says("at every if there is a CHOICE: 0 for A or 1 for B");
    with(0, 2, "w2 w1 ? p").paths(2).choices(0);
    with(0, 2, "w1 w2 ? p").paths(2).choices(1);
    // Like sides, too, are a choice.
    with(0, 2, "w1 w1 ? p").paths(2).worstRuns(2).choices(0);
    // An if that is not begun has none: on the other side, or in no round.
    with(0, 2, "w9 w1 w2 ? ? p").paths(3).choices(0);
    with(0, 2, "w1 w2 ? w9 ? p").paths(3).choices(1);
    with(0, 2, "w1 w2 ? l00 p").paths(1).choices();
    // One that is begun in each round has one each time.
    with(0, 2, "w1 w2 ? l33 p").paths(8).choices(1, 1, 1);
  }

  private static void choicesOfALoop() {
    says("at every loop that is begun, where lo is less than hi, there is a CHOICE: how often A is"
        + " done");
    for (int lo = 0; lo <= 4; lo++) {
      for (int hi = lo; hi <= 4; hi++) {
        Box x = with(0, 2, "w1 l" + lo + hi + " p").paths(hi - lo + 1).best(lo).worst(hi);
        if (lo < hi) {
          x.choices(hi).make("w0 l" + lo + hi + " p").choices(lo).worstRuns(hi - lo + 1);
        } else {
          x.choices();
        }
      }
    }
    // Not begun: no choice. Begun twice: two choices.
    with(0, 2, "w1 l01 l00 p").paths(1).choices();
    with(0, 2, "w9 w1 l01 ? p").paths(3).choices(0);
    with(0, 2, "w1 l01 l22 p").paths(4).choices(1, 1);
    with(0, 2, "w1 l22 l01 p").paths(2).choices(1);
  }

  private static void whenALoopsChoiceIsMade() {
    says("(A loop's choice is made when it is begun.)");
    with(0, 2, "w1 l03 l12 p").paths(4 + 16).choices(2, 3, 3);
    with(0, 2, "w1 w2 ? l02 p").paths(1 + 2 + 4).choices(2, 1, 1);
    with(0, 2, "w1 l13 w1 l02 ; p").paths(9).choices(3, 2);
  }

  private static void orderOfPaths() {
    says("PATHS ARE ORDERED by the first choice that differs, the lesser one first");
    // 0 1 and 1 0 take longest.
    with(0, 2, "w1 w5 ? w5 w1 ? ? p").worst(5).worstRuns(2).choices(0, 1);
    with(0, 2, "w5 w1 ? w1 w5 ? ? p").worst(5).worstRuns(2).choices(0, 0);
    with(0, 2, "w1 w1 ? w1 w5 ? ? p").worst(5).worstRuns(1).choices(1, 1);
    // 1 and 0 1: the longer row comes first here, and the shorter one next.
    with(0, 2, "w1 w5 ? w5 ? p").worst(5).worstRuns(2).choices(0, 1);
    with(0, 2, "w5 w1 w5 ? ? p").worst(5).worstRuns(2).choices(0);
    // The fewest rounds of those that take equally long.
    with(0, 2, "w0 l14 p").worstRuns(4).choices(1);
    with(0, 2, "w4 w2 w0 l04 ; ? p").worstRuns(1).choices(0);
    with(0, 2, "w1 w4 w0 l24 ; ? p").worstRuns(3).choices(1, 2);
  }

  // ---- Terms: the sure tables ----

  private static void agesBelowW() {
    says("access m: the bound is 1 if m has an age below W, else 10");
    with(0, 1, inTurn(0)).bound(10).sure(0, 0);
    with(0, 1, inTurn(0, 0)).bound(11).sure(1, 1);
    with(0, 1, inTurn(0, 1, 0)).bound(30).sure(3, 0);
    with(0, 2, inTurn(0, 1, 0)).bound(21).sure(3, 1);
    with(0, 2, inTurn(0, 1, 2, 0)).bound(40).sure(5, 0);
    with(0, 3, inTurn(0, 1, 2, 0)).bound(31).sure(5, 1);
    with(0, 3, inTurn(0, 1, 2, 3, 0)).bound(50).sure(7, 0);
    with(0, 4, inTurn(0, 1, 2, 3, 0)).bound(41).sure(7, 1);
    with(0, 4, inTurn(0, 1, 2, 3, 4, 0)).bound(60).sure(9, 0);
  }

  private static void agesBehindAnAccess() {
    says("behind it m has age 0, and all lines of its set that had a lesser age than m have an age"
        + " greater by 1, the others as before");
    // 0 to 3 have the ages 3 to 0; 2 comes again, so 3 is older, and 0 and 1 are not.
    with(0, 4, inTurn(0, 1, 2, 3, 2, 4, 1, 0)).bound(40 + 1 + 10 + 1 + 10);
    with(0, 4, inTurn(0, 1, 2, 3, 2, 4, 3, 2)).bound(40 + 1 + 10 + 1 + 1);
    // 5 and 6 both have age 1 behind the if: an equal age is not a lesser one, so 6 stays.
    with(0, 2, "a5 a6 ; a6 a5 ; ? a5 ; a6 ; p").bound(20 + 1 + 1).sure(7, 1).sure(9, 1);
    // Lines of another set stay as before.
    with(1, 1, inTurn(0, 1, 3, 5, 0)).bound(41).sure(7, 1);
    with(2, 1, inTurn(0, 1, 2, 3, 4, 3)).bound(51).sure(9, 1);
    with(2, 1, inTurn(0, 1, 2, 3, 4, 0)).bound(60).sure(9, 0);
  }

  private static void tablesOfAnIf() {
    says("if: of both tables behind A and B (from the same table) each line gets the greater age;"
        + " the greater bound");
    // 5 on one side only is not sure behind it, on whichever side.
    with(0, 2, "a5 w9 ? a5 ; p").bound(10 + 10).sure(3, 0);
    with(0, 2, "w9 a5 ? a5 ; p").bound(10 + 10).sure(3, 0);
    with(0, 2, "a5 w11 ? a5 ; p").bound(11 + 10);
    with(0, 2, "w11 a5 ? a5 ; p").bound(11 + 10);
    with(0, 2, "a5 a5 ? a5 ; p").bound(10 + 1).sure(3, 1);
    // Age 0 on one side and 1 on the other: one more line drives it out.
    with(0, 2, "a5 a5 a6 ; ? a5 ; p").bound(20 + 1).sure(5, 1);
    with(0, 2, "a5 a5 a6 ; ? a7 ; a5 ; p").bound(20 + 10 + 10).sure(7, 0);
    with(0, 2, "a5 a6 ; a5 ? a7 ; a5 ; p").bound(20 + 10 + 10).sure(7, 0);
    // B begins with the table before the if, not with the one behind A.
    with(0, 2, "a5 a5 ? p").bound(10).sure(0, 0).sure(1, 0);
    with(0, 2, "a5 w0 a5 ? ; p").bound(10 + 1).sure(2, 1);
  }

  private static void tablesOfALoop() {
    says("loop lo hi: behind it each line gets the greatest of its ages in T(lo), .., T(hi)");
    // T(0) counts if lo is 0.
    with(0, 2, "a5 l04 a5 ; p").bound(13 + 10).sure(2, 0);
    with(0, 2, "a5 l14 a5 ; p").bound(13 + 1).sure(2, 1);
    with(0, 2, "a5 l00 a5 ; p").bound(10).sure(2, 0);
    // Each round makes 5 older by 1, so of three places it has gone in T(3).
    String older = "a5 a6 a7 ? ";
    for (int lo = 0; lo <= 4; lo++) {
      for (int hi = lo; hi <= 4; hi++) {
        int last = hi < 3 ? 1 : 10;
        with(0, 3, older + "l" + lo + hi + " ; a5 ; p").bound(10 + 10 * hi + last)
            .sure(6, hi < 3 ? 1 : 0);
      }
    }
    // 5 has age 2 in T(1) and age 1 in T(2) and later, so it is sure if lo is 2.
    String younger = "a5 a6 w0 ? ; a6 ; ";
    with(0, 2, younger + "l01 a5 ; p").bound(30 + 10);
    with(0, 2, younger + "l11 a5 ; p").bound(30 + 10);
    with(0, 2, younger + "l12 a5 ; p").bound(30 + 12 + 10);
    with(0, 2, younger + "l13 a5 ; p").bound(30 + 12 + 3 + 10);
    with(0, 2, younger + "l22 a5 ; p").bound(30 + 12 + 1);
    with(0, 2, younger + "l23 a5 ; p").bound(30 + 12 + 3 + 1);
  }

  private static void tablesOfEachLine() {
    says("SURE TABLES give each line an age from 0 to W; At the beginning all ages are W");
    for (int sets : SET_ARGUMENTS) {
      for (int m = 0; m < 12; m++) {
        String a = "a" + m;
        with(sets, 1, a + " p").bound(10).sure(0, 0);
        with(sets, 1, a + " " + a + " ; p").bound(11).sure(1, 1);
        with(sets, 1, "w0 " + a + " ? p").bound(10).sure(1, 0);
        with(sets, 1, a + " w9 ? " + a + " ; p").bound(20).sure(3, 0);
        with(sets, 1, "w9 " + a + " ? " + a + " ; p").bound(20).sure(3, 0);
        with(sets, 1, a + " l04 " + a + " ; p").bound(13 + 10).sure(2, 0);
        with(sets, 1, a + " l14 " + a + " ; p").bound(13 + 1).sure(2, 1);
        // What the rules found when they came here before does not count.
        with(sets, 1, "w0 w0 ? " + a + " ; l22 p").bound(11);
        with(sets, 1, "w0 l12 " + a + " ; l22 p").bound(11);
      }
    }
  }

  private static void boundOfALoop() {
    says("loop lo hi: the bound is b(0) + .. + b(hi - 1)");
    for (int lo = 0; lo <= 4; lo++) {
      for (int hi = lo; hi <= 4; hi++) {
        with(0, 2, "w7 l" + lo + hi + " p").bound(7 * hi);
        with(0, 2, "a5 l" + lo + hi + " p").bound(hi == 0 ? 0 : 9 + hi);
        with(0, 1, "a5 a6 ; l" + lo + hi + " p").bound(20 * hi);
      }
    }
    // Each program's bound is its own.
    with(0, 2, "w7 l04 p w1 l04 p").bound(4);
    with(0, 2, "w7 w7 ? p w1 w1 ? p").bound(1);
  }

  private static void sureWhenever() {
    says("An access in the program is SURE if, whenever these rules come to it, the bound is 1"
        + " there");
    // Not in the first round, and then in all.
    with(0, 2, "a5 l22 p").sure(0, 0);
    // In the first round, and not in the last.
    with(0, 1, "a5 a5 a6 ; l22 ; p").sure(1, 0);
    with(0, 1, "a5 a5 a6 ; l11 ; p").sure(1, 1);
    // In each round, since 5 is the last one of the round before.
    with(0, 1, "a5 a5 l44 ; p").sure(1, 1);
    with(0, 2, "a5 a6 a7 ? a5 ; l44 ; p").sure(4, 1);
    with(0, 1, "a5 a6 a7 ? a5 ; l44 ; p").sure(4, 0);
    says("(a loop's A for each i from 0 to hi - 1)");
    // Each round may make 5 older by 1, so that with W places it is not sure where i is W.
    for (int places = 1; places <= 4; places++) {
      for (int lo = 0; lo <= 4; lo++) {
        for (int hi = lo; hi <= 4; hi++) {
          with(0, places, "a5 a5 a6 a7 ? ? l" + lo + hi + " ; p")
              .sure(1, hi > 0 && hi <= places ? 1 : 0);
        }
      }
    }
  }

  private static void sureOnlyIfComeTo() {
    says("and they come to it at least once");
    with(0, 2, "a5 a5 l00 ; p").of(1, 0, 0, 0, 0);
    with(0, 2, "a5 a5 l01 ; p").of(1, 1, 0, 1, 0);
    with(0, 2, "a5 a5 l11 ; p").of(1, 1, 0, 1, 0);
    // Within a loop or an if or a seq that is never come to.
    with(0, 2, "a5 a5 l22 l00 ; p").sure(1, 0);
    with(0, 2, "a5 a5 l00 l22 ; p").sure(1, 0);
    with(0, 2, "a5 a5 w0 ? l00 ; p").sure(1, 0);
    with(0, 2, "a5 w0 a5 ; l00 ; p").sure(2, 0);
    with(0, 2, "a5 l00 p").of(0, 0, 0, 0, 0);
  }

  // ---- Promises 1 to 3 ----

  // Lines 0, 1, 2 and 4, one place in each set: what is left tells how many sets there are.
  private static void setsAre(int argument, int count) {
    with(argument, 1, inTurn(0, 1, 2, 4)).holds(0, 0).holds(1, count == 1 ? 0 : 1)
        .holds(2, count == 4 ? 1 : 0).holds(4, 1);
  }

  private static void placesAre(int argument, int count) {
    Box x = with(0, argument, inTurn(0, 1, 2, 3, 4, 5));
    for (int m = 0; m < 6; m++) {
      x.holds(m, m >= 6 - count ? 1 : 0);
    }
  }

  private static void promise1() {
    says("1: 1 set as sets is below 1");
    setsAre(LEAST, 1);
    setsAre(-1, 1);
    setsAre(0, 1);
    says("1: 2 sets as sets is 1");
    setsAre(1, 2);
    says("1: 4 sets as sets is above 1");
    setsAre(2, 4);
    setsAre(3, 4);
    setsAre(4, 4);
    setsAre(5, 4);
    setsAre(MOST, 4);
    says("1: the number of places is places, clamped into 1 to 4");
    placesAre(LEAST, 1);
    placesAre(-1, 1);
    placesAre(0, 1);
    placesAre(1, 1);
    placesAre(2, 2);
    placesAre(3, 3);
    placesAre(4, 4);
    placesAre(5, 4);
    placesAre(MOST, 4);
    says("1: The program is work 0 (statement 0)");
    empty().isWorkZero();
    new Box(LEAST, LEAST).isWorkZero();
    new Box(MOST, MOST).isWorkZero();
    says("1: the stack is empty");
    empty().depth(0).discard(0).program(TOO_FEW).loop(0, 0, TOO_FEW).join(0, TOO_FEW);
    empty().access(0, 0).depth(1);
    // The first program's statement is none of the 18.
    spread(18).depth(18).work(1, FULL);
  }

  private static void promise2() {
    says("2: m not 0 to 11 answers BAD_ARG");
    empty().access(-1, BAD_ARG).access(LEAST, BAD_ARG).depth(0)
        .access(0, 0).depth(1).program(1).holds(0, 1);
    empty().access(12, BAD_ARG).access(MOST, BAD_ARG).depth(0)
        .access(11, 0).depth(1).program(1).holds(11, 1);
    says("2: 18 statements were made answers FULL");
    spread(17).access(0, 17).access(0, FULL).depth(18);
    says("2: what was made counts, not what is on the stack");
    nested(17).access(0, 17).access(0, FULL).depth(2);
    says("2: tested in this order: BAD_ARG, FULL");
    spread(18).access(-1, BAD_ARG).access(12, BAD_ARG).access(LEAST, BAD_ARG)
        .access(MOST, BAD_ARG).access(11, FULL);
    says("2: since the stack was last emptied by a call of discard");
    spread(18).access(0, FULL).discard(18).access(0, 0).make(times(16, "a1").trim())
        .access(0, 17).access(0, FULL);
    says("2: since the stack was last emptied by a call of program");
    nested(18).access(0, FULL).program(18).access(0, 0).make(times(16, "a1").trim())
        .access(0, 17).access(0, FULL);
    says("2: a call of program that is refused does not empty the stack");
    spread(18).program(TOO_FEW).access(0, FULL).discard(18).access(0, 0);
    with(0, 2, "w1" + times(17, "l44")).program(TOO_MANY).access(0, FULL).discard(1).access(0, 0);
  }

  private static void promise3() {
    says("3: c not 0 to 50 answers BAD_ARG");
    empty().work(-1, BAD_ARG).work(LEAST, BAD_ARG).depth(0)
        .work(0, 0).depth(1).program(1).worst(0).bound(0);
    empty().work(51, BAD_ARG).work(MOST, BAD_ARG).depth(0)
        .work(50, 0).depth(1).program(1).worst(50).bound(50);
    says("3: FULL as for access");
    spread(17).work(0, 17).work(0, FULL).depth(18);
    nested(17).work(0, 17).work(0, FULL).depth(2);
    spread(18).work(50, FULL).discard(18).work(50, 0);
    nested(18).work(50, FULL).program(18).work(50, 0);
    says("3: tested in this order: BAD_ARG, FULL");
    spread(18).work(-1, BAD_ARG).work(51, BAD_ARG).work(LEAST, BAD_ARG).work(MOST, BAD_ARG)
        .work(0, FULL);
  }

  // ---- Promises 4 and 5 ----

  private static void promise4() {
    says("4: op not 0 or 1 answers BAD_ARG");
    empty().make("w3 w4").join(-1, BAD_ARG).join(2, BAD_ARG).join(LEAST, BAD_ARG)
        .join(MOST, BAD_ARG).depth(2).join(0, 2).depth(1).program(3).worst(7).paths(1);
    empty().make("w3 w4").join(-1, BAD_ARG).join(2, BAD_ARG).join(1, 2).depth(1)
        .program(3).worst(4).paths(2);
    says("4: FULL as for access");
    spread(17).join(0, 17).depth(16).join(0, FULL).depth(16);
    spread(17).join(1, 17).depth(16).join(1, FULL).depth(16);
    spread(18).join(0, FULL).join(1, FULL).depth(18).discard(18).make("w1 w1").join(0, 2);
    nested(18).join(0, FULL).join(1, FULL).program(18).make("w1 w1").join(1, 2);
    says("4: fewer than two statements answers TOO_FEW");
    empty().join(0, TOO_FEW).join(1, TOO_FEW).depth(0)
        .work(1, 0).join(0, TOO_FEW).join(1, TOO_FEW).depth(1)
        .work(1, 1).join(0, 2).depth(1).join(0, TOO_FEW).join(1, TOO_FEW);
    says("4: what is on the stack counts, not what was made");
    nested(17).join(0, TOO_FEW).join(1, TOO_FEW).depth(1);
    says("4: tested in this order: BAD_ARG, FULL");
    spread(18).join(-1, BAD_ARG).join(2, BAD_ARG).join(LEAST, BAD_ARG).join(MOST, BAD_ARG);
    says("4: tested in this order: FULL, TOO_FEW");
    nested(18).join(0, FULL).join(1, FULL).join(2, BAD_ARG).join(-1, BAD_ARG).depth(1);
    says("4: tested in this order: BAD_ARG, TOO_FEW");
    empty().join(-1, BAD_ARG).join(2, BAD_ARG).join(LEAST, BAD_ARG).join(MOST, BAD_ARG)
        .work(1, 0).join(-1, BAD_ARG).join(2, BAD_ARG);
    says("4: Takes A and, on top of it, B off");
    with(0, 1, "a0 a1 ; p").holds(0, 0).holds(1, 1);
    with(0, 1, "w9 a0 w4 ? ; p").paths(2).worst(19).choices(0);
    with(0, 1, "w9 w4 a0 ? ; p").paths(2).worst(19).choices(1);
  }

  private static void promise5() {
    says("5: lo not 0 to 4, or hi not lo to 4, answers BAD_ARG");
    int[] arguments = {LEAST, -2, -1, 0, 1, 2, 3, 4, 5, 6, MOST};
    Box x = empty();
    for (int lo : arguments) {
      for (int hi : arguments) {
        boolean allowed = lo >= 0 && lo <= 4 && hi >= lo && hi <= 4;
        x.work(1, 0).loop(lo, hi, allowed ? 1 : BAD_ARG).depth(1).discard(1);
      }
    }
    says("5: FULL as for access");
    spread(17).loop(0, 0, 17).depth(17).loop(0, 0, FULL).loop(4, 4, FULL).depth(17);
    nested(17).loop(0, 0, 17).depth(1).loop(0, 4, FULL).depth(1);
    spread(18).loop(0, 0, FULL).depth(18).discard(18).make("w1").loop(0, 0, 1);
    nested(18).loop(0, 0, FULL).program(18).make("w1").loop(0, 0, 1);
    says("5: an empty stack answers TOO_FEW");
    empty().loop(0, 0, TOO_FEW).loop(4, 4, TOO_FEW).depth(0)
        .work(1, 0).loop(0, 0, 1).depth(1).discard(1).loop(0, 4, TOO_FEW)
        .work(1, 0).program(1).loop(0, 4, TOO_FEW).depth(0);
    says("5: tested in this order: BAD_ARG, FULL");
    spread(18).loop(-1, 0, BAD_ARG).loop(0, 5, BAD_ARG).loop(2, 1, BAD_ARG)
        .loop(LEAST, LEAST, BAD_ARG).loop(MOST, MOST, BAD_ARG).loop(1, 2, FULL);
    says("5: tested in this order: BAD_ARG, TOO_FEW");
    empty().loop(-1, 0, BAD_ARG).loop(0, 5, BAD_ARG).loop(2, 1, BAD_ARG)
        .loop(LEAST, MOST, BAD_ARG).loop(MOST, LEAST, BAD_ARG).loop(1, 2, TOO_FEW);
    says("5: Takes A off and pushes loop lo hi");
    with(0, 2, "w9 w1 l33 ; p").worst(12);
  }

  // ---- Promises 6 to 8 ----

  private static void promises6And7() {
    says("6: How many statements are on the stack");
    empty().depth(0).work(1, 0).depth(1).access(1, 1).depth(2).join(0, 2).depth(1)
        .loop(0, 1, 3).depth(1).program(4).depth(0);
    spread(18).depth(18);
    says("7: Empties the stack; answers how many there were");
    empty().discard(0).discard(0).depth(0);
    spread(1).discard(1).depth(0).discard(0);
    spread(18).discard(18).depth(0).discard(0);
    nested(18).discard(1).depth(0);
    says("7: the program stays");
    with(0, 2, "a5 p w50").discard(1).worst(10).holds(5, 1).of(0, 0, 1, 0, 1);
    with(0, 2, "a5 p").discard(0).worst(10).holds(5, 1).of(0, 0, 1, 0, 1);
    says("7: what was discarded leaves nothing behind");
    with(0, 2, "w1 l22 l34 d w1 w2 ? p").paths(2).length(1).worst(2).best(1).choices(1);
    with(0, 2, "w1 w2 ? d w1 l22 l22 p").paths(1).length(10).worst(4).choices();
    with(0, 2, "a1 a2 a3 d w1 w2 ? p").noAccess(0).noAccess(1).noAccess(2).worst(2).ends(1);
  }

  private static final String TEN = "w1" + times(10, "l01");
  private static final String PATHS_150 = "w1 l04 w1 l04 ; w1 l04 w1 ? ;";
  private static final String FIVE_SIDES = "w0 w0 ? w0 ? w0 ? w0 ?";
  private static final String LENGTH_120 = "a1 l33 l44 w1 ; l44";
  private static final String ROUNDS_120 = "w1 l00 l44 l44 w1 l00 l22 l33 ; l44";

  private static void taken(String calls, int statements, int paths, int length) {
    with(0, 2, calls).program(statements).depth(0).paths(paths).length(length);
  }

  private static void tooMany(String calls) {
    with(0, 2, calls).program(TOO_MANY).depth(1).isWorkZero().program(TOO_MANY).discard(1);
  }

  private static void promise8() {
    says("8: The one statement on the stack becomes the program; the stack is empty afterwards");
    empty().access(3, 0).program(1).depth(0).worst(10).holds(3, 1).access(4, 0);
    nested(18).program(18).depth(0).worst(1).length(18).work(1, 0);
    with(0, 2, "w1 l22 l34 p w1 w2 ? p").paths(2).length(1).worst(2).best(1).choices(1);
    says("8: not just one statement answers TOO_FEW");
    empty().program(TOO_FEW).depth(0).isWorkZero();
    spread(2).program(TOO_FEW).depth(2).isWorkZero();
    spread(18).program(TOO_FEW).depth(18).isWorkZero();
    with(0, 2, "a5 p").program(TOO_FEW).worst(10);
    says("8: tested in this order: TOO_FEW, TOO_MANY");
    with(0, 2, PATHS_150 + " w1 ? w1").program(TOO_FEW);
    with(0, 2, LENGTH_120 + " w1 ; w1").program(TOO_FEW);
    with(0, 2, TEN + " l12 w1").program(TOO_FEW);
  }

  private static void promise8Paths() {
    says("8: more than 150 paths answers TOO_MANY");
    taken(PATHS_150, 10, 150, 24);
    taken(FIVE_SIDES + " l23", 10, 150, 6);
    tooMany(PATHS_150 + " w1 ?");
    tooMany("w1 " + PATHS_150 + " ?");
    tooMany(FIVE_SIDES + " l23 w1 ?");
    tooMany(FIVE_SIDES + " l13");
    // Those of statements that are never done are none.
    taken(FIVE_SIDES + " l44 l00", 11, 1, 0);
    says("8: more paths than an int holds, which as ints are 0 or less");
    // 4 to the 16th, which is 2 to the 32nd, with a length of 116 and 16 choices.
    tooMany("w1 l03 l44 l44");
    // 3 to the 20th.
    tooMany("w1 l02 w1 l02 ; w1 l02 ; w1 l02 ; w1 l02 ; l22 l22");
  }

  private static void promise8Length() {
    says("8: a run with more than 120 accesses, works and rounds together answers TOO_MANY");
    taken(LENGTH_120, 6, 1, 120);
    tooMany(LENGTH_120 + " w1 ;");
    tooMany(LENGTH_120 + " a1 ;");
    // Rounds alone, in which nothing is done.
    taken(ROUNDS_120, 10, 1, 120);
    tooMany(ROUNDS_120 + " w1 l00 l11 ;");
    // One run of several is enough.
    taken(LENGTH_120 + " w1 ?", 8, 2, 120);
    taken("w1 " + LENGTH_120 + " ?", 8, 2, 120);
    tooMany(LENGTH_120 + " w1 ; w1 ?");
    tooMany("w1 " + LENGTH_120 + " w1 ; ?");
    taken("a1 l33 l44 w1 ; l04", 6, 5, 120);
    tooMany("a1 l33 l44 w1 ; l04 w1 ;");
    // The longer sides of two ifs come together in one run.
    taken("a1 l33 l44 w1 ; l22 w1 ? a1 l33 l44 w1 ; l22 w1 ? ;", 17, 4, 120);
    tooMany("a1 l33 l44 w1 ; l22 w1 ? a1 l33 l44 w1 ; l22 w1 ? ; l11");
    // Works count one each, however long they take.
    taken("w50 l33 l44 w0 ; l44", 6, 1, 120);
    says("8: a run longer than an int holds, which as an int is negative");
    tooMany("w1" + times(15, "l44"));
    tooMany("w1" + times(17, "l44"));
  }

  private static void promise8Choices() {
    says("8: a run with more than 20 choices answers TOO_MANY");
    taken(TEN + " l22", 12, 121, 24);
    tooMany(TEN + " l12");
    // Ifs among them.
    String ten = "w1" + times(8, "l01") + " w1 ? w1 ?";
    taken(ten + " l22", 14, 121, 20);
    tooMany(ten + " l12");
    // Those of both parts of a seq.
    tooMany("w1 " + TEN + " ; l12");
    tooMany(TEN + " w1 ; l12");
    String twoAndEight = "w1 l01 w1 l01 ;" + times(8, "l01");
    taken(twoAndEight + " l22", 14, 144, 26);
    tooMany(twoAndEight + " l22 w1 ?");
    tooMany(TEN + " l22 w1 ?");
    tooMany("w1 " + TEN + " l22 ?");
    // Loops without a choice are none, nor are those that are never begun.
    taken(TEN + " l22 w1 l44 ;", 15, 121, 32);
    taken(TEN + " l22 w1 l01 l00 ;", 16, 121, 24);
    says("8: more of everything than an int holds");
    tooMany("w1" + times(16, "l34") + " l12");
    taken("w1" + times(15, "l34") + " l00", 17, 1, 0);
  }

  private static void promise8Refused() {
    says("8: refused as TOO_MANY the statement stays, and is good for more");
    with(0, 2, PATHS_150 + " w1 ?").program(TOO_MANY).loop(0, 0, 12).program(13)
        .paths(1).length(0).worst(0);
    with(0, 2, LENGTH_120 + " w1 ;").program(TOO_MANY).loop(0, 0, 8).program(9).length(0);
    with(0, 2, TEN + " l12").program(TOO_MANY).loop(0, 0, 12).program(13).paths(1).choices();
    with(0, 2, TEN + " l12").program(TOO_MANY).work(7, 12).program(TOO_FEW).join(1, 13)
        .program(TOO_MANY).discard(1).work(3, 0).program(1).worst(3);
    says("8: Otherwise how many statements it has");
    empty().work(0, 0).program(1);
    with(0, 2, times(9, "w1").trim() + times(8, ";") + " l11").program(18).worst(9);
  }

  // ---- Promises 9 to 15 ----

  private static void promises9And10() {
    says("9: How many paths the program has");
    with(0, 2, "w1 p").paths(1);
    with(0, 2, FIVE_SIDES + " l23 p").paths(150);
    says("10: The greatest number of accesses, works and rounds, together, of a run");
    with(0, 2, "w1 l00 p").length(0);
    with(0, 2, "w1 p").length(1);
    with(0, 2, "a1 p").length(1);
    with(0, 2, "w0 l11 p").length(2);
    with(0, 2, "w1 l00 l11 p").length(1);
    with(0, 2, LENGTH_120 + " p").length(120);
    // The longest run need not be the one that takes longest.
    with(0, 2, "w0 l04 w50 ? p").length(8).worst(50).choices(1);
  }

  private static void promises11To13() {
    says("11: The greatest time of a run");
    with(0, 2, "w1 l00 p").worst(0).best(0).worstRuns(1);
    // 4 * (1 + 4 * (1 + 3 * 2)) of length; 4 * 4 * 3 works, and 4.
    with(0, 2, "w50 l33 l44 w50 ; l44 p").worst(4 * (4 * 3 * 50 + 50)).best(2600);
    with(0, 1, "a0 l33 l44 a1 ; l44 p").worst(4 * (10 + 11 + 10)).bound(124);
    says("12: The least time of a run");
    with(0, 2, "w50 l04 p").best(0).worst(200);
    with(0, 2, "w50 l14 p").best(50);
    with(0, 2, "w5 w3 ? w4 ? p").best(3).worst(5);
    says("13: How many runs have the greatest time");
    with(0, 2, FIVE_SIDES + " l23 p").worstRuns(150).worst(0).best(0)
        .choices(2, 0, 0, 0, 0, 0, 0, 0, 0);
    with(0, 2, "w0 w0 ? w0 ? w0 ? w1 ? l23 p").worstRuns(1).worst(3).choices(3, 1, 1, 1);
    with(0, 2, "w5 w5 ? w4 ? p").worstRuns(2).choices(0, 0);
    with(0, 2, "w4 w5 ? w5 ? p").worstRuns(2).choices(0, 1);
  }

  private static void promise14() {
    says("14: Choice number k (0 the first); NONE if there is none");
    with(0, 2, "w1 p").choice(0, NONE).choice(-1, NONE).choice(1, NONE).choice(LEAST, NONE)
        .choice(MOST, NONE);
    with(0, 2, "w1 w2 ? p").choice(-1, NONE).choice(0, 1).choice(1, NONE).choice(19, NONE)
        .choice(20, NONE).choice(LEAST, NONE).choice(MOST, NONE);
    Box x = with(0, 2, TEN + " l22 p");
    for (int k = 0; k < 20; k++) {
      x.choice(k, 1);
    }
    x.choice(20, NONE).choice(21, NONE).choice(-1, NONE).choice(LEAST, NONE).choice(MOST, NONE);
    says("14: of the first path with the greatest time, though another one has more choices");
    with(0, 2, "w9 w1 w2 ? ? p").choices(0);
    with(0, 2, "w1 w2 ? w9 ? p").choices(1);
    with(0, 2, "w9 " + TEN + " ? p").choices(0);
    says("14: the choices of an earlier program are gone");
    with(0, 2, TEN + " l22 p w1 w2 ? p").choices(1).choice(19, NONE);
  }

  private static void promise15() {
    says("15: The program's bound, from the table of the beginning");
    with(0, 2, "w0 p").bound(0);
    with(0, 2, "a5 l00 p").bound(0);
    with(0, 2, "a5 p a5 p").bound(10);
    with(0, 2, "w50 l33 l44 w50 ; l44 p").bound(2600);
  }

  // ---- Promises 16 to 21 ----

  private static void promises16To19() {
    says("16 to 19: NONE if the program has no access with this number");
    // 0 access, 1 work, 2 if, 3 loop, 4 access, 5 seq.
    Box x = with(0, 2, "a5 w1 ? l11 a5 ; p");
    x.of(0, 0, 1, 0, 0).noAccess(1).noAccess(2).noAccess(3).of(4, 0, 1, 1, 0).noAccess(5);
    x.noAccess(6).noAccess(17).noAccess(18).noAccess(19).noAccess(-1).noAccess(LEAST)
        .noAccess(MOST);
    // The greatest number that an access can have is 16, in a program of 18 statements.
    with(0, 2, "w1" + times(15, "l11") + " a5 ; p").of(16, 0, 1, 0, 1).noAccess(17).noAccess(15)
        .noAccess(18);
    with(0, 2, "a5 p").of(0, 0, 1, 0, 1).noAccess(1).noAccess(-1);
    says("16 to 19: those of an earlier program are gone, those under way are not yet there");
    with(0, 2, "a5 a5 ; a5 ; p w1 p").noAccess(0).noAccess(1).noAccess(3);
    with(0, 2, "a5 p w1 a5").of(0, 0, 1, 0, 1).noAccess(1);
    with(0, 2, "w1 a5").noAccess(0).noAccess(1);
    with(0, 2, "a5 a5 ; p a5 d").of(0, 0, 1, 0, 1).of(1, 1, 0, 1, 0);
    says("17: The greatest number of misses of this access in a run");
    with(0, 1, "a5 a6 ; l44 l44 p").misses(0, 16).misses(1, 16).hits(0, 0).fewest(0, 16);
    with(0, 1, "a5 a6 ; l04 p").misses(0, 4).fewest(0, 0);
    with(0, 1, "a5 l00 p").misses(0, 0);
    says("18: The greatest number of hits of this access in a run");
    with(0, 1, "a5 l44 l44 p").hits(0, 15).misses(0, 1).fewest(0, 1);
    with(0, 1, "a5 l00 p").hits(0, 0);
    says("19: The least number of misses of this access in a run");
    // No run without a miss; one that hits; one that does not come to it.
    with(0, 1, "a5 l14 p").fewest(0, 1).misses(0, 1).hits(0, 3);
    with(0, 1, "a5 w1 ? a5 ; p").fewest(3, 0).misses(3, 1).hits(3, 1);
    with(0, 1, "a5 w1 ? p").fewest(0, 0).misses(0, 1).hits(0, 0);
    // The run with the most misses has no hit, and the one with the most hits the fewest misses.
    with(0, 1, "a5 a6 w0 ? ; l44 p").of(0, 0, 4, 3, 1).of(1, 0, 4, 0, 0);
  }

  private static void promise20() {
    says("20: How many different things the cache can hold at the end of a run");
    with(0, 2, "w1 p").ends(1);
    with(0, 2, "w1 w2 ? p").ends(1);
    with(0, 2, "a5 a5 ? p").ends(1);
    with(0, 2, "a5 w1 ? p").ends(2);
    with(0, 2, "a0 a11 ? p").ends(2);
    // Two or three accesses of five lines: one line, two or three in any order.
    with(0, 4, "a0 a1 ? a2 ? a3 ? a4 ? l23 p").paths(150).ends(5 + 20 + 60);
    with(0, 3, "a0 a1 ? a2 ? a3 ? a4 ? l23 p").ends(5 + 20 + 60);
    with(0, 2, "a0 a1 ? a2 ? a3 ? a4 ? l23 p").ends(5 + 20);
    with(0, 1, "a0 a1 ? a2 ? a3 ? a4 ? l23 p").ends(5);
    says("20: (for each set which lines, and in which order of their last accesses)");
    with(0, 2, "a5 a6 ; a6 a5 ; ? p").ends(2);
    with(0, 1, "a5 a6 ; a6 a5 ; ? p").ends(2);
    with(0, 1, "a5 a6 ; a7 a6 ; ? p").ends(1);
    with(1, 2, "a5 a6 ; a6 a5 ; ? p").ends(1);
    with(1, 2, "a5 a7 ; a7 a5 ; ? p").ends(2);
    with(2, 2, "a5 a7 ; a7 a5 ; ? p").ends(1);
    with(2, 2, "a3 a7 ; a7 a3 ; ? p").ends(2);
    with(0, 4, "a0 a1 ; a1 a0 ; ? a2 ; a3 ; p").ends(2);
    with(0, 3, "a0 a1 ; a1 a0 ; ? a2 ; a3 ; p").ends(2);
    with(0, 2, "a0 a1 ; a1 a0 ; ? a2 ; a3 ; p").ends(1);
  }

  private static void promise21() {
    says("21: BAD_ARG if m is not 0 to 11");
    with(0, 2, "a0 a11 ; p").holds(-1, BAD_ARG).holds(0, 1).holds(1, 0).holds(10, 0)
        .holds(11, 1).holds(12, BAD_ARG).holds(LEAST, BAD_ARG).holds(MOST, BAD_ARG);
    empty().holds(-1, BAD_ARG).holds(0, 0).holds(11, 0).holds(12, BAD_ARG);
    says("21: In how many runs the cache holds line m at the end");
    for (int m = 0; m < 12; m++) {
      with(0, 1, "a" + m + " p").holds(m, 1).make("a" + m + " l04 p").holds(m, 4)
          .make("w1 p").holds(m, 0);
    }
    with(0, 4, "a0 a1 ? a2 ? a3 ? a4 ? l23 p").holds(0, 9 + 61).holds(4, 9 + 61).holds(5, 0);
    with(0, 1, "a0 a1 ? a2 ? a3 ? a4 ? l23 p").holds(0, 30).holds(4, 30);
    with(0, 2, FIVE_SIDES + " l23 a7 ; p").holds(7, 150);
    with(0, 1, FIVE_SIDES + " l23 a7 ; a8 ; p").holds(7, 0).holds(8, 150);
  }

  // ---- A refused call ----

  // Does the refused call in the state that the calls before it make, and then goes on, beside an
  // object that goes on without it: so what can't be asked at once must be the same, too.
  private static void changesNothing(String before, String after, String call,
      ToIntFunction<CycleBounds> refused, int code) {
    Box x = with(1, 2, before);
    List<Integer> first = x.state();
    x.due(call, refused.applyAsInt(x.x), code);
    if (!x.state().equals(first)) {
      fault("other answers after the refused call: " + x.story);
    }
    Box y = with(1, 2, before);
    if (!x.make(after).state().equals(y.make(after).state())) {
      fault("other answers than without the refused call: " + x.story);
    }
  }

  private static final int[] LINES_OUT = {LEAST, -1, 12, MOST};
  private static final int[] WORKS_OUT = {LEAST, -1, 51, MOST};
  private static final int[] OPS_OUT = {LEAST, -1, 2, MOST};
  private static final int[] NUMBERS_OUT = {LEAST, -1, 18, MOST};
  private static final int[] CHOICES_OUT = {LEAST, -1, 20, MOST};
  private static final int[][] ROUNDS_OUT = {{LEAST, 0}, {LEAST, LEAST}, {-1, 0}, {-1, 4}, {0, -1},
      {0, 5}, {1, 0}, {4, 3}, {4, 5}, {5, 5}, {5, 4}, {0, LEAST}, {0, MOST}, {MOST, MOST},
      {MOST, 4}, {LEAST, MOST}, {MOST, LEAST}};

  private static void badArguments(String before, String after) {
    for (int m : LINES_OUT) {
      changesNothing(before, after, "access(" + m + ")", x -> x.access(m), BAD_ARG);
      changesNothing(before, after, "holds(" + m + ")", x -> x.holds(m), BAD_ARG);
    }
    for (int c : WORKS_OUT) {
      changesNothing(before, after, "work(" + c + ")", x -> x.work(c), BAD_ARG);
    }
    for (int op : OPS_OUT) {
      changesNothing(before, after, "join(" + op + ")", x -> x.join(op), BAD_ARG);
    }
    for (int[] r : ROUNDS_OUT) {
      changesNothing(before, after, "loop(" + r[0] + ", " + r[1] + ")", x -> x.loop(r[0], r[1]),
          BAD_ARG);
    }
    for (int n : NUMBERS_OUT) {
      changesNothing(before, after, "sure(" + n + ")", x -> x.sure(n), NONE);
      changesNothing(before, after, "misses(" + n + ")", x -> x.misses(n), NONE);
      changesNothing(before, after, "hits(" + n + ")", x -> x.hits(n), NONE);
      changesNothing(before, after, "fewest(" + n + ")", x -> x.fewest(n), NONE);
    }
    for (int k : CHOICES_OUT) {
      changesNothing(before, after, "choice(" + k + ")", x -> x.choice(k), NONE);
    }
  }

  private static void allFull(String before, String after) {
    changesNothing(before, after, "access(0)", x -> x.access(0), FULL);
    changesNothing(before, after, "work(7)", x -> x.work(7), FULL);
    changesNothing(before, after, "join(0)", x -> x.join(0), FULL);
    changesNothing(before, after, "join(1)", x -> x.join(1), FULL);
    changesNothing(before, after, "loop(0, 0)", x -> x.loop(0, 0), FULL);
    changesNothing(before, after, "loop(1, 4)", x -> x.loop(1, 4), FULL);
  }

  private static void tooFewToJoin(String before, String after) {
    changesNothing(before, after, "join(0)", x -> x.join(0), TOO_FEW);
    changesNothing(before, after, "join(1)", x -> x.join(1), TOO_FEW);
  }

  private static void noProgram(String before, String after, int code) {
    changesNothing(before, after, "program", x -> x.program(), code);
  }

  private static final String A_PROGRAM = "a5 w9 ? a5 ; l13 p";

  private static void refusedOnAnEmptyStack() {
    says("A refused call answers the code named and changes nothing: on an empty stack");
    for (String before : new String[] {"", A_PROGRAM, A_PROGRAM + " a1 a2 d"}) {
      String after = "a3 w2 ; p";
      badArguments(before, after);
      tooFewToJoin(before, after);
      changesNothing(before, after, "loop(0, 0)", x -> x.loop(0, 0), TOO_FEW);
      changesNothing(before, after, "loop(1, 4)", x -> x.loop(1, 4), TOO_FEW);
      noProgram(before, after, TOO_FEW);
    }
  }

  private static void refusedOnAFilledStack() {
    says("A refused call answers the code named and changes nothing: with statements on the stack");
    String one = A_PROGRAM + " a1";
    badArguments(one, "p");
    tooFewToJoin(one, "p");
    tooFewToJoin(one, "a2 ; l12 p");
    String three = A_PROGRAM + " a1 a3 w2 l12";
    badArguments(three, "? ; p");
    noProgram(three, "? ; p", TOO_FEW);
    says("A refused call answers the code named and changes nothing: after 18 statements");
    String spread = A_PROGRAM + times(18, "a1");
    badArguments(spread, "d a3 p");
    allFull(spread, "d a3 p");
    noProgram(spread, "d a3 p", TOO_FEW);
    String nested = A_PROGRAM + " a1 w1 ?" + times(13, "l11") + " l12 l22";
    badArguments(nested, "p a3 p");
    allFull(nested, "p");
    allFull(nested, "p a3 p");
  }

  private static void refusedWithTooMany() {
    says("A refused call answers the code named and changes nothing: with too many paths");
    for (String much : new String[] {PATHS_150 + " w1 ?", LENGTH_120 + " a1 ;", TEN + " l12"}) {
      String before = A_PROGRAM + " " + much;
      badArguments(before, "l00 p");
      tooFewToJoin(before, "l00 p");
      noProgram(before, "l00 p", TOO_MANY);
      noProgram(before, "d a3 p", TOO_MANY);
      noProgram(before + " w1", "; l00 p", TOO_FEW);
    }
  }

  // ---- Sentences of the terms that hold for every run ----

  private static void everyKindIsAProgram() {
    says("A PROGRAM is a STATEMENT: access m; work c, which takes c cycles; seq; if; loop");
    with(0, 2, "a5 p").worst(10).best(10).bound(10).length(1).paths(1);
    with(0, 2, "a5 w3 ; p").worst(13).best(13).bound(13).length(2).paths(1);
    with(0, 2, "a5 w3 ? p").worst(10).best(3).bound(10).length(1).paths(2);
    with(0, 2, "w3 l12 p").worst(6).best(3).bound(6).length(4).paths(2);
    for (int c = 0; c <= 50; c++) {
      with(0, 2, "w" + c + " p").worst(c).best(c).bound(c).length(1).ends(1);
    }
  }

  private static void runsAreNotLeftOut() {
    says("A RUN does the program from beginning to end: one that does not come to an access is no"
        + " less a run, and has no miss and no hit of it");
    with(0, 2, "a5 w10 ? p").of(0, 0, 1, 0, 0).worst(10).best(10).worstRuns(2).holds(5, 1).ends(2);
    with(0, 2, "w10 a5 ? p").of(1, 0, 1, 0, 0).worstRuns(2).holds(5, 1);
    with(0, 2, "a5 l04 p").of(0, 0, 1, 3, 0);
    with(0, 2, "a5 l14 p").of(0, 0, 1, 3, 1);
    with(0, 2, "a5 l14 l01 p").of(0, 0, 1, 3, 0);
    // Where it is come to it always misses, or always hits.
    with(0, 1, "a5 a6 ; a5 w1 ? ; p").of(0, 0, 1, 0, 1).of(3, 0, 1, 0, 0);
    with(0, 1, "a5 a5 w1 ? ; p").of(1, 1, 0, 1, 0);
    // No run comes to it.
    with(0, 1, "a5 l00 p").of(0, 0, 0, 0, 0);
    with(0, 1, "a5 l00 a5 ; p").of(0, 0, 0, 0, 0).of(2, 0, 1, 0, 1);
  }

  private static void runsAreCountedByPath() {
    says("runs with the same path are the same, and those with different ones are not");
    with(0, 2, "w1 w1 ? p").paths(2).worstRuns(2);
    with(0, 2, "a5 a5 ? p").paths(2).holds(5, 2).ends(1).of(0, 0, 1, 0, 0).of(1, 0, 1, 0, 0);
    with(0, 2, "w1 l00 l02 p").paths(3).worstRuns(3);
    with(0, 2, "a5 l22 p").paths(1).worstRuns(1).holds(5, 1);
    with(0, 2, "a5 l33 l22 a5 ; p").paths(1).worstRuns(1).holds(5, 1).worst(10 + 5 + 1);
  }

  private static void whatTakesTime() {
    says("The TIME of a run is the sum of the cycles of its accesses and works");
    with(0, 2, "w0 l04 p").worst(0).best(0).bound(0);
    with(0, 2, "w1 l00 l44 p").worst(0).best(0).bound(0).length(4);
    with(0, 2, "w1 w1 ? w1 ? p").worst(1).best(1).bound(1);
    with(0, 2, "w7 a5 ; a5 ; w8 ; p").worst(26).best(26).bound(26);
    with(0, 2, "w7 a5 ; l23 p").worst(21 + 12).best(14 + 11).bound(33);
  }

  private static void tablesOfASeq() {
    says("seq: that of A, then that of B; the sum of both bounds");
    with(0, 1, "a5 a6 ; a5 ; p").bound(30).sure(3, 0);
    with(0, 1, "a6 a5 ; a5 ; p").bound(21).sure(3, 1);
    with(0, 1, "a6 a5 a5 ; ; p").bound(21).sure(2, 1);
    with(0, 2, "w3 w4 ; p").bound(7);
    says("work c: the bound is c; the table stays");
    with(0, 1, "a5 w50 ; a5 ; p").bound(10 + 50 + 1).sure(3, 1);
    with(0, 1, "w0 a5 ; p").bound(10).sure(1, 0);
  }

  // ---- Every call in every state ----

  private static final String[] STATES = {"", "a5", "a5 w1", "a5 w1 ?", "a5 w9 ? a5 ; l13 p",
      "a5 w9 ? a5 ; l13 p a1 l44 l44 l44", "w1" + times(17, "l34"), "w1" + times(17, "l11") + " p",
      times(18, "a11").trim(), times(18, "a11").trim() + " d", "a0 a1 ? a2 ? a3 ? a4 ? l23 p",
      "w1 l33 l44 w1 ; l44 p", "w1" + times(10, "l01") + " l22 p"};
  private static final int[] FAR = {LEAST, LEAST + 1, -5, -1, 0, 1, 2, 4, 5, 11, 12, 17, 18, 19, 20,
      21, 50, 51, 149, 150, MOST - 1, MOST};

  private static void callAll(CycleBounds x, int i, int j) {
    x.sure(i);
    x.misses(i);
    x.hits(i);
    x.fewest(i);
    x.holds(i);
    x.choice(i);
    x.access(i);
    x.work(i);
    x.loop(i, j);
    x.join(i);
    x.program();
  }

  private static void noCallThrows() {
    says("No call ever throws");
    for (String calls : STATES) {
      for (int i : FAR) {
        for (int j : FAR) {
          Box x = with(i, j, calls);
          try {
            callAll(x.x, i, j);
            callAll(x.x, j, i);
          } catch (RuntimeException thrown) {
            fault(x.story + " and all calls with " + i + ", " + j + ": " + thrown);
          }
        }
      }
    }
  }

  private static void askingChangesNothing() {
    says("Nothing is promised beyond the answers and state changes described above: to ask changes"
        + " nothing");
    for (String calls : STATES) {
      Box x = with(1, 2, calls);
      if (!x.state().equals(x.state())) {
        fault("other answers when asked again: " + x.story);
      }
    }
  }

  private static void objectsAreApart() {
    says("1: A new object is apart from those there are");
    Box x = new Box(0, 1);
    Box y = new Box(2, 4);
    x.access(3, 0);
    y.depth(0).work(9, 0);
    x.access(7, 1).join(0, 2);
    y.access(1, 1).join(1, 2).depth(1);
    x.loop(2, 2, 3).program(4);
    y.isWorkZero().program(3).worst(10).choices(1);
    x.worst(40).holds(3, 0).holds(7, 1);
    new Box(0, 1).isWorkZero().depth(0);
    x.worst(40).choices().of(0, 0, 2, 0, 2);
  }

  private static void terms() {
    everyKindIsAProgram();
    runsAreNotLeftOut();
    runsAreCountedByPath();
    whatTakesTime();
    tablesOfASeq();
    linesAndSets();
    placesOfASet();
    whatGoesFromAFullSet();
    hitsAndMisses();
    emptyAtTheBeginning();
    numbersOfStatements();
    choicesOfAnIf();
    choicesOfALoop();
    whenALoopsChoiceIsMade();
    orderOfPaths();
    agesBelowW();
    agesBehindAnAccess();
    tablesOfAnIf();
    tablesOfALoop();
    tablesOfEachLine();
    boundOfALoop();
    sureWhenever();
    sureOnlyIfComeTo();
  }

  private static void promises() {
    promise1();
    promise2();
    promise3();
    promise4();
    promise5();
    promises6And7();
    promise8();
    promise8Paths();
    promise8Length();
    promise8Choices();
    promise8Refused();
    promises9And10();
    promises11To13();
    promise14();
    promise15();
    promises16To19();
    promise20();
    promise21();
  }

  public static void main(String[] args) {
    at512Calls();
    terms();
    promises();
    refusedOnAnEmptyStack();
    refusedOnAFilledStack();
    refusedWithTooMany();
    noCallThrows();
    askingChangesNothing();
    objectsAreApart();
    System.out.println("boundaries: " + sentences + " sentences, "
        + (wrong == 0 ? "all answers are as due" : wrong + " answers are not as due"));
    if (wrong != 0) {
      System.exit(1);
    }
  }
}
