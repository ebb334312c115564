// For each promise of the document its ordinary answers, its edges and its wrong inputs, with
// answers worked out by hand.
public final class PromiseTests {
  private static final int BAD_ARG = -1;
  private static final int FULL = -2;
  private static final int TOO_FEW = -3;
  private static final int NONE = -4;
  private static final int TOO_MANY = -5;
  private static final int LEAST = Integer.MIN_VALUE;
  private static final int MOST = Integer.MAX_VALUE;

  private static int wrong = 0;

  private static void due(String what, int got, int want) {
    if (got != want) {
      wrong++;
      System.out.println(what + " answered " + got + ", due is " + want);
    }
  }

  // Statements in one line: "a3" access, "w5" work, ";" seq, "?" if, "l03" loop 0 3, "p" program.
  private static void build(CycleBounds x, String calls) {
    for (String call : calls.split(" ")) {
      int answer;
      switch (call.charAt(0)) {
        case 'a': answer = x.access(Integer.parseInt(call.substring(1))); break;
        case 'w': answer = x.work(Integer.parseInt(call.substring(1))); break;
        case ';': answer = x.join(0); break;
        case '?': answer = x.join(1); break;
        case 'l': answer = x.loop(call.charAt(1) - '0', call.charAt(2) - '0'); break;
        default: answer = x.program();
      }
      if (answer < 0) {
        wrong++;
        System.out.println("building '" + calls + "': " + call + " answered " + answer);
      }
    }
  }

  private static CycleBounds with(int sets, int places, String calls) {
    CycleBounds x = new CycleBounds(sets, places);
    build(x, calls);
    return x;
  }

  private static void fill(CycleBounds x) {
    for (int n = 0; n < 18; n++) {
      due("statement " + n, x.work(0), n);
    }
  }

  private static void isWorkZero(String what, CycleBounds x) {
    due(what + " paths", x.paths(), 1);
    due(what + " length", x.length(), 1);
    due(what + " worst", x.worst(), 0);
    due(what + " best", x.best(), 0);
    due(what + " worstRuns", x.worstRuns(), 1);
    due(what + " choice(0)", x.choice(0), NONE);
    due(what + " bound", x.bound(), 0);
    due(what + " ends", x.ends(), 1);
    for (int m = 0; m < 12; m++) {
      due(what + " holds", x.holds(m), 0);
    }
    for (int n = -1; n < 19; n++) {
      due(what + " sure", x.sure(n), NONE);
      due(what + " misses", x.misses(n), NONE);
      due(what + " hits", x.hits(n), NONE);
      due(what + " fewest", x.fewest(n), NONE);
    }
  }

  // Lines 0, 1, 2 and 4, one place in each set: what is left tells how many sets there are.
  private static void setsAre(int argument, int count) {
    CycleBounds x = with(argument, 1, "a0 a1 ; a2 ; a4 ; p");
    due("sets " + argument + " holds(0)", x.holds(0), 0);
    due("sets " + argument + " holds(1)", x.holds(1), count == 1 ? 0 : 1);
    due("sets " + argument + " holds(2)", x.holds(2), count == 4 ? 1 : 0);
    due("sets " + argument + " holds(4)", x.holds(4), 1);
  }

  private static void placesAre(int argument, int count) {
    CycleBounds x = with(0, argument, "a0 a1 ; a2 ; a3 ; a4 ; p");
    for (int m = 0; m < 5; m++) {
      due("places " + argument + " holds(" + m + ")", x.holds(m), m >= 5 - count ? 1 : 0);
    }
  }

  private static void promise1() {
    setsAre(LEAST, 1);
    setsAre(-1, 1);
    setsAre(0, 1);
    setsAre(1, 2);
    setsAre(2, 4);
    setsAre(3, 4);
    setsAre(4, 4);
    setsAre(MOST, 4);
    placesAre(LEAST, 1);
    placesAre(0, 1);
    placesAre(1, 1);
    placesAre(2, 2);
    placesAre(3, 3);
    placesAre(4, 4);
    placesAre(5, 4);
    placesAre(MOST, 4);
    isWorkZero("new", new CycleBounds(1, 2));
    isWorkZero("new", new CycleBounds(LEAST, MOST));
    CycleBounds x = new CycleBounds(2, 2);
    due("new depth", x.depth(), 0);
    due("new program", x.program(), TOO_FEW);
    due("new access", x.access(0), 0);
  }

  private static void promise2() {
    CycleBounds x = new CycleBounds(1, 2);
    due("access(-1)", x.access(-1), BAD_ARG);
    due("access(12)", x.access(12), BAD_ARG);
    due("access least", x.access(LEAST), BAD_ARG);
    due("access most", x.access(MOST), BAD_ARG);
    due("depth after wrong accesses", x.depth(), 0);
    due("access(0)", x.access(0), 0);
    due("access(11)", x.access(11), 1);
    due("depth after accesses", x.depth(), 2);
    CycleBounds y = new CycleBounds(1, 2);
    fill(y);
    due("access when full", y.access(0), FULL);
    due("wrong access when full", y.access(12), BAD_ARG);
    due("depth when full", y.depth(), 18);
    // What counts is what was made, not what is still on the stack.
    CycleBounds z = with(1, 2, "w0 l11 l11 l11 l11 l11 l11 l11 l11 l11 l11 l11 l11 l11 l11 l11 l11");
    due("statement 17", z.access(0), 17);
    due("access after 18 statements", z.access(0), FULL);
    due("depth after 18 statements", z.depth(), 2);
    due("refused program keeps the count", z.program(), TOO_FEW);
    due("access after refused program", z.access(0), FULL);
    due("discard", z.discard(), 2);
    due("access after discard", z.access(0), 0);
    due("program", z.program(), 1);
    due("access after program", z.access(0), 0);
  }

  private static void promise3() {
    CycleBounds x = new CycleBounds(1, 2);
    due("work(-1)", x.work(-1), BAD_ARG);
    due("work(51)", x.work(51), BAD_ARG);
    due("work least", x.work(LEAST), BAD_ARG);
    due("work most", x.work(MOST), BAD_ARG);
    due("depth after wrong works", x.depth(), 0);
    due("work(0)", x.work(0), 0);
    due("work(50)", x.work(50), 1);
    due("join", x.join(0), 2);
    due("program", x.program(), 3);
    due("time of works", x.worst(), 50);
    due("number after program", x.work(7), 0);
    CycleBounds y = new CycleBounds(1, 2);
    fill(y);
    due("work when full", y.work(0), FULL);
    due("wrong work when full", y.work(51), BAD_ARG);
    due("depth when full", y.depth(), 18);
  }

  private static void promise4() {
    CycleBounds x = new CycleBounds(1, 2);
    due("join(-1) of none", x.join(-1), BAD_ARG);
    due("join(2) of none", x.join(2), BAD_ARG);
    due("join(0) of none", x.join(0), TOO_FEW);
    due("join(1) of none", x.join(1), TOO_FEW);
    build(x, "w3");
    due("join(0) of one", x.join(0), TOO_FEW);
    due("join(1) of one", x.join(1), TOO_FEW);
    build(x, "w4");
    due("join(2)", x.join(2), BAD_ARG);
    due("join(least)", x.join(LEAST), BAD_ARG);
    due("join(most)", x.join(MOST), BAD_ARG);
    due("depth before join", x.depth(), 2);
    due("join(1)", x.join(1), 2);
    due("depth after join", x.depth(), 1);
    build(x, "p");
    due("if takes B, the upper one, as 1", x.choice(0), 1);
    due("if is not seq", x.worst(), 4);
    build(x, "w3 w4 ; p");
    due("seq takes both", x.worst(), 7);
    due("seq has no choice", x.choice(0), NONE);
    // The upper one is done last: line 1 goes, line 0 stays.
    due("order of seq", with(0, 1, "a1 a0 ; p").holds(0), 1);
    due("order of seq", with(0, 1, "a0 a1 ; p").holds(0), 0);
    CycleBounds y = new CycleBounds(1, 2);
    fill(y);
    due("join when full", y.join(0), FULL);
    due("wrong join when full", y.join(2), BAD_ARG);
    due("depth when full", y.depth(), 18);
    CycleBounds z = with(1, 2, "w0 l11 l11 l11 l11 l11 l11 l11 l11 l11 l11 l11 l11 l11 l11 l11 l11 l11");
    due("FULL before TOO_FEW", z.join(1), FULL);
  }

  private static void promise5() {
    CycleBounds x = new CycleBounds(1, 2);
    due("loop of none", x.loop(0, 1), TOO_FEW);
    due("wrong loop of none", x.loop(-1, 1), BAD_ARG);
    build(x, "w3");
    due("loop(-1, 0)", x.loop(-1, 0), BAD_ARG);
    due("loop(-1, -1)", x.loop(-1, -1), BAD_ARG);
    due("loop(5, 5)", x.loop(5, 5), BAD_ARG);
    due("loop(4, 5)", x.loop(4, 5), BAD_ARG);
    due("loop(2, 1)", x.loop(2, 1), BAD_ARG);
    due("loop(0, most)", x.loop(0, MOST), BAD_ARG);
    due("loop(least, 4)", x.loop(LEAST, 4), BAD_ARG);
    due("loop(0, -1)", x.loop(0, -1), BAD_ARG);
    due("depth", x.depth(), 1);
    due("loop(0, 4)", x.loop(0, 4), 1);
    due("depth after loop", x.depth(), 1);
    build(x, "p");
    due("most rounds", x.worst(), 12);
    due("least rounds", x.best(), 0);
    build(x, "w3 l24 p");
    due("most rounds of 2 to 4", x.worst(), 12);
    due("least rounds of 2 to 4", x.best(), 6);
    build(x, "w3 l44 p");
    due("least rounds of 4 to 4", x.best(), 12);
    build(x, "w3 l00 p");
    due("no rounds", x.worst(), 0);
    build(x, "w1 w3 l22 ; p");
    due("loop takes the uppermost", x.worst(), 7);
    CycleBounds y = new CycleBounds(1, 2);
    fill(y);
    due("loop when full", y.loop(1, 1), FULL);
    due("wrong loop when full", y.loop(1, 0), BAD_ARG);
    due("depth when full", y.depth(), 18);
  }

  private static void promise6and7() {
    CycleBounds x = new CycleBounds(1, 2);
    due("depth", x.depth(), 0);
    due("discard of none", x.discard(), 0);
    build(x, "w1 a2 w3");
    due("depth", x.depth(), 3);
    build(x, ";");
    due("depth after join", x.depth(), 2);
    build(x, "l01");
    due("depth after loop", x.depth(), 2);
    due("discard", x.discard(), 2);
    due("depth after discard", x.depth(), 0);
    due("discard again", x.discard(), 0);
    due("number after discard", x.access(1), 0);
    isWorkZero("discard leaves the program", x);
    due("program", x.program(), 1);
    due("depth after program", x.depth(), 0);
    build(x, "w1");
    due("discard", x.discard(), 1);
    due("program after discard", x.worst(), 10);
  }

  private static void promise8() {
    CycleBounds x = new CycleBounds(1, 2);
    due("program of none", x.program(), TOO_FEW);
    build(x, "a0 a1");
    due("program of two", x.program(), TOO_FEW);
    due("depth after TOO_FEW", x.depth(), 2);
    isWorkZero("TOO_FEW leaves the program", x);
    build(x, "?");
    due("program of an if", x.program(), 3);
    due("program of none again", x.program(), TOO_FEW);
    due("answers stay", x.worst(), 10);
    // Statements under way are not yet the program.
    build(x, "w50");
    due("answers stay", x.worst(), 10);
    due("answers stay", x.misses(0), 1);
  }

  private static void limit(String what, String calls, int answer, int paths, int length) {
    CycleBounds x = with(1, 2, calls);
    due(what + ", program", x.program(), answer);
    if (answer == TOO_MANY) {
      due(what + ", depth", x.depth(), 1);
      isWorkZero(what, x);
      due(what + ", program again", x.program(), TOO_MANY);
    } else {
      due(what + ", depth", x.depth(), 0);
      due(what + ", paths", x.paths(), paths);
      due(what + ", length", x.length(), length);
    }
  }

  private static void promise8limits() {
    String ten = "w1 l01 l01 l01 l01 l01 l01 l01 l01 l01 l01";
    limit("150 paths", "w1 l04 w1 l04 ; w1 l04 w1 ? ;", 10, 150, 24);
    limit("151 paths", "w1 l04 w1 l04 ; w1 l04 w1 ? ; w1 ?", TOO_MANY, 0, 0);
    limit("length 120", "w1 l33 l44 w1 ; l44", 6, 1, 120);
    limit("length 121", "w1 l33 l44 w1 ; l44 w1 ;", TOO_MANY, 0, 0);
    limit("length 121 on one side", "w1 w1 l33 l44 w1 ; l44 w1 ; ?", TOO_MANY, 0, 0);
    limit("20 choices", ten + " l22", 12, 121, 24);
    limit("21 choices", ten + " l12", TOO_MANY, 0, 0);
    limit("22 choices", ten + " l01 l22", TOO_MANY, 0, 0);
    limit("22 choices, one of each round an if's", ten + " w1 ? l22", TOO_MANY, 0, 0);
    limit("17 choices", ten + " l01 l01 l01 l01 l01 l01 l01", 18, 18, 18);
    limit("very many paths",
        "w1 l04 l04 l04 l04 l04 l04 l04 l04 l04 l04 l04 l04 l04 l04 l04 l04 l04", TOO_MANY, 0, 0);
    limit("very long",
        "w1 l44 l44 l44 l44 l44 l44 l44 l44 l44 l44 l44 l44 l44 l44 l44 l44 l44", TOO_MANY, 0, 0);
    limit("very much that is never done",
        "w1 l04 l04 l04 l04 l04 l04 l04 l04 l04 l04 l04 l04 l04 l04 l04 l00", 17, 1, 0);
    // 3 to the 20th paths, which an int holds as a negative number; nothing else is too much.
    limit("3 to the 20th paths",
        "w1 l02 w1 l02 ; w1 l02 ; w1 l02 ; w1 l02 ; l22 l22", TOO_MANY, 0, 0);
    limit("paths of a loop of loops", "w1 l04 l44", TOO_MANY, 0, 0);
    limit("paths of an if in loops", "w1 w2 ? l44 l44", TOO_MANY, 0, 0);
    limit("paths of an if in a loop", "w1 w2 ? l44", 4, 16, 8);
    CycleBounds x = with(1, 2, ten + " l12");
    due("TOO_MANY", x.program(), TOO_MANY);
    due("number after TOO_MANY", x.work(1), 12);
    due("discard after TOO_MANY", x.discard(), 2);
    due("number after discard", x.work(1), 0);
  }

  private static void promise9and10() {
    CycleBounds x = with(1, 2, "a0 l12 a0 l02 ; p");
    due("paths of a seq", x.paths(), 6);
    due("length of a seq", x.length(), 8);
    build(x, "a0 l12 a0 l02 ? p");
    due("paths of an if", x.paths(), 5);
    due("length of an if", x.length(), 4);
    build(x, "a0 w1 ? l13 p");
    due("paths of a loop", x.paths(), 2 + 4 + 8);
    due("length of a loop", x.length(), 6);
    build(x, "a0 w1 ? l33 p");
    due("paths of a loop without a choice", x.paths(), 8);
    build(x, "w1 w1 ? p");
    due("like sides are two paths", x.paths(), 2);
    due("length of one leaf", x.length(), 1);
    build(x, "w1 l00 l04 p");
    due("empty rounds are paths", x.paths(), 5);
    due("empty rounds count", x.length(), 4);
    build(x, "w1 w1 ? l00 p");
    due("paths of no rounds", x.paths(), 1);
    due("length of no rounds", x.length(), 0);
    build(x, "w1 w2 w3 ; ; w1 l22 ? p");
    due("length is the longer side's", x.length(), 4);
  }

  private static void promise11to13() {
    // A hit and a miss by the order of last accesses, not of first ones.
    CycleBounds x = with(0, 2, "a0 a1 ; a0 ; a2 ; a0 ; p");
    due("the least recent goes", x.worst(), 10 + 10 + 1 + 10 + 1);
    due("one run", x.best(), 32);
    due("one run", x.worstRuns(), 1);
    build(x, "a0 a1 ; a0 ; a2 ; a1 ; p");
    due("the least recent goes", x.worst(), 10 + 10 + 1 + 10 + 10);
    build(x, "w50 w3 ? p");
    due("worst of an if", x.worst(), 50);
    due("best of an if", x.best(), 3);
    due("worstRuns of an if", x.worstRuns(), 1);
    build(x, "w3 w50 ? p");
    due("worst of an if", x.worst(), 50);
    due("best of an if", x.best(), 3);
    due("worstRuns when the first is not the worst", x.worstRuns(), 1);
    build(x, "w7 w7 ? l22 p");
    due("worstRuns of like sides", x.worstRuns(), 4);
    // The longer side at once is the quicker one later.
    build(x, "a5 w9 ? a5 ; p");
    due("worst with a look ahead", x.worst(), 19);
    due("best with a look ahead", x.best(), 11);
    due("worst side", x.choice(0), 1);
    // Rounds beyond the first are hits.
    build(x, "a5 l04 p");
    due("worst of a loop", x.worst(), 13);
    due("best of a loop", x.best(), 0);
    // Lines of other sets do not drive each other out.
    due("one set", with(0, 1, "a0 a1 ; l44 p").worst(), 80);
    due("two sets", with(1, 1, "a0 a1 ; l44 p").worst(), 26);
    due("two sets, one used", with(1, 1, "a0 a2 ; l44 p").worst(), 80);
    due("four sets", with(2, 1, "a0 a2 ; l44 p").worst(), 26);
    due("four sets, one used", with(2, 1, "a3 a7 ; a11 ; l44 p").worst(), 120);
    due("four sets of three", with(2, 3, "a3 a7 ; a11 ; l44 p").worst(), 39);
    // The cache is empty before each run, whatever the run before it left.
    build(x, "w1 w1 ? a5 ; p");
    due("every run begins empty", x.best(), 11);
    due("every run begins empty", x.worstRuns(), 2);
  }

  private static void promise14() {
    CycleBounds x = with(1, 2, "w1 w2 ? w5 w5 ? ; w1 l13 ; p");
    due("choice(0)", x.choice(0), 1);
    due("choice(1), the first of two", x.choice(1), 0);
    due("choice(2), rounds", x.choice(2), 3);
    due("choice(3)", x.choice(3), NONE);
    due("choice(-1)", x.choice(-1), NONE);
    due("choice(least)", x.choice(LEAST), NONE);
    due("choice(most)", x.choice(MOST), NONE);
    due("choice(20)", x.choice(20), NONE);
    // A loop's choice is made when it is begun, before those of its rounds; each round has its own.
    build(x, "a0 a0 ? l02 p");
    due("loop first", x.choice(0), 2);
    due("round 0", x.choice(1), 0);
    due("round 1", x.choice(2), 0);
    due("no round 2", x.choice(3), NONE);
    // Of runs that take equally long, the one with the lesser first choice.
    build(x, "w0 l04 p");
    due("least number of rounds", x.choice(0), 0);
    build(x, "w4 w2 l22 ? p");
    due("first of equals", x.choice(0), 0);
    due("no choice without a range", x.choice(1), NONE);
    build(x, "w4 l11 w4 l01 ; p");
    due("only the loop with a range", x.choice(0), 1);
    due("only the loop with a range", x.choice(1), NONE);
    // An older row leaves nothing behind.
    build(x, "w1 p");
    due("no choices", x.choice(0), NONE);
    CycleBounds y = with(1, 2, "w1 l01 l01 l01 l01 l01 l01 l01 l01 l01 l01 l22 p");
    for (int k = 0; k < 20; k++) {
      due("choice of twenty", y.choice(k), 1);
    }
    due("choice(20)", y.choice(20), NONE);
  }

  private static void promise15() {
    CycleBounds x = with(0, 2, "a0 a0 ; p");
    due("bound of a hit", x.bound(), 11);
    // The greater bound counts even if the other side's table is the worse one.
    build(x, "a5 w9 ? a5 ; p");
    due("bound above worst", x.bound(), 10 + 10);
    due("worst below bound", x.worst(), 19);
    build(x, "a5 a5 ? a5 ; p");
    due("sure from both sides", x.bound(), 11);
    build(x, "a5 a6 a5 ; ? a5 ; p");
    due("sure from both sides", x.bound(), 20 + 1);
    // Behind the if 5 has the greater age 1, so one more line drives it out.
    build(x, "a5 a5 a6 ; ? a7 ; a5 ; p");
    due("greater age", x.bound(), 20 + 10 + 10);
    build(x, "a5 a5 a6 ; ? a5 ; p");
    due("greater age, still sure", x.bound(), 20 + 1);
    build(x, "a5 l14 a5 ; p");
    due("sure behind a round", x.bound(), 13 + 1);
    build(x, "a5 l04 a5 ; p");
    due("not sure behind no round", x.bound(), 13 + 10);
    build(x, "a5 a6 ; a7 l01 ; a5 ; p");
    due("T(0) counts when lo is 0", x.bound(), 20 + 10 + 10);
    build(x, "a5 a6 ; a5 l12 ; a7 ; a5 ; p");
    due("T(0) does not count when lo is 1", x.bound(), 20 + 2 + 10 + 1);
    build(x, "a5 a6 ; l22 p");
    due("bound of two rounds", x.bound(), 22);
    build(x, "a5 a6 ? l04 p");
    due("bound of ifs in rounds", x.bound(), 40);
    due("worst of ifs in rounds", x.worst(), 10 + 10 + 1 + 1);
    // A hit of the elder makes the younger one older, and no other.
    CycleBounds y = with(0, 3, "a1 a2 ; a3 ; a2 ; a4 ; a1 ; p");
    due("access of the middle", y.bound(), 10 + 10 + 10 + 1 + 10 + 10);
    build(y, "a1 a2 ; a3 ; a1 ; a4 ; a3 ; p");
    due("access of the eldest", y.bound(), 10 + 10 + 10 + 1 + 10 + 1);
    build(y, "a1 a2 ; a3 ; a3 ; a4 ; a2 ; p");
    due("access of the youngest", y.bound(), 10 + 10 + 10 + 1 + 10 + 1);
    due("other sets keep their ages", with(1, 1, "a0 a1 ; a0 ; p").bound(), 21);
    due("own set loses", with(1, 1, "a0 a2 ; a0 ; p").bound(), 30);
    build(y, "w3 w8 ? w5 ; l02 p");
    due("bound of works", y.bound(), 26);
  }

  private static void noAccess(CycleBounds x, int n) {
    due("sure(" + n + ")", x.sure(n), NONE);
    due("misses(" + n + ")", x.misses(n), NONE);
    due("hits(" + n + ")", x.hits(n), NONE);
    due("fewest(" + n + ")", x.fewest(n), NONE);
  }

  private static void accessIs(CycleBounds x, int n, int sure, int misses, int hits, int fewest) {
    due("sure(" + n + ")", x.sure(n), sure);
    due("misses(" + n + ")", x.misses(n), misses);
    due("hits(" + n + ")", x.hits(n), hits);
    due("fewest(" + n + ")", x.fewest(n), fewest);
  }

  private static void promise16to19() {
    CycleBounds x = with(0, 2, "a5 w1 ? a5 ; a5 ; p");
    accessIs(x, 0, 0, 1, 0, 0);
    noAccess(x, 1);
    noAccess(x, 2);
    accessIs(x, 3, 0, 1, 1, 0);
    noAccess(x, 4);
    accessIs(x, 5, 1, 0, 1, 0);
    noAccess(x, 6);
    noAccess(x, 7);
    noAccess(x, 17);
    noAccess(x, 18);
    noAccess(x, -1);
    noAccess(x, LEAST);
    noAccess(x, MOST);
    // The first round misses, so it is not sure, though all later ones hit.
    build(x, "a5 l24 p");
    accessIs(x, 0, 0, 1, 3, 1);
    noAccess(x, 1);
    noAccess(x, 3);
    // Behind the if 5 is sure whichever side was taken, and neither 6 nor 7 is.
    build(x, "a5 a6 a7 ? ; a5 ; l22 p");
    accessIs(x, 0, 0, 1, 1, 1);
    accessIs(x, 1, 0, 1, 1, 0);
    accessIs(x, 2, 0, 1, 1, 0);
    accessIs(x, 5, 1, 0, 2, 0);
    // Sure, though not every run comes to it.
    build(x, "a5 a5 w1 ? ; p");
    accessIs(x, 1, 1, 0, 1, 0);
    // Never come to.
    build(x, "a5 a5 l00 ; p");
    accessIs(x, 0, 0, 1, 0, 1);
    accessIs(x, 1, 0, 0, 0, 0);
    // 5 and 6 are held in either order, and 7 drives the elder one out.
    build(x, "a5 a6 ; a6 a5 ; ? a7 ; a5 a6 ? ; p");
    accessIs(x, 0, 0, 1, 0, 0);
    accessIs(x, 9, 0, 1, 1, 0);
    accessIs(x, 10, 0, 1, 1, 0);
    // Misses in every round, since the other one drives it out.
    CycleBounds y = with(0, 1, "a5 a6 ; l13 p");
    accessIs(y, 0, 0, 3, 0, 1);
    accessIs(y, 1, 0, 3, 0, 1);
    // A sure second round does not mend an unsure later one.
    build(y, "a5 a5 ; a6 w1 ? ; l33 p");
    accessIs(y, 0, 0, 3, 2, 1);
    accessIs(y, 1, 1, 0, 3, 0);
    // Sure in the first round, not in the second.
    build(y, "a5 a5 a6 ; l22 ; p");
    accessIs(y, 0, 0, 1, 0, 1);
    accessIs(y, 1, 0, 1, 1, 1);
    build(y, "a5 a5 ; a6 w1 ? ; l33 p");
    // Numbers are those of the program, not of what is on the stack.
    y.discard();
    build(y, "w1 a5 ;");
    accessIs(y, 0, 0, 3, 2, 1);
    noAccess(y, 2);
    build(y, "p");
    noAccess(y, 0);
    accessIs(y, 1, 0, 1, 0, 1);
    noAccess(y, 3);
  }

  private static void promise20and21() {
    CycleBounds x = with(0, 2, "a5 a6 ; a6 a5 ; ? p");
    due("order tells ends apart", x.ends(), 2);
    due("holds(5)", x.holds(5), 2);
    due("holds(6)", x.holds(6), 2);
    due("holds(7)", x.holds(7), 0);
    due("holds(-1)", x.holds(-1), BAD_ARG);
    due("holds(12)", x.holds(12), BAD_ARG);
    due("holds(least)", x.holds(LEAST), BAD_ARG);
    due("holds(most)", x.holds(MOST), BAD_ARG);
    due("holds(0)", x.holds(0), 0);
    due("holds(11)", x.holds(11), 0);
    due("order of the eldest two", with(0, 4, "a0 a2 ; a2 a0 ; ? a5 ; a7 ; p").ends(), 2);
    // In two sets there is no order between 5 and 6.
    due("no order across sets", with(1, 2, "a5 a6 ; a6 a5 ; ? p").ends(), 1);
    due("order in one of two sets", with(1, 2, "a5 a7 ; a7 a5 ; ? p").ends(), 2);
    build(x, "a5 l04 p");
    due("empty or not", x.ends(), 2);
    due("holds after rounds", x.holds(5), 4);
    build(x, "a0 a1 ? a2 ? a11 ? l22 p");
    // One line twice: 4 ends; two different ones in order: 12 ends.
    due("ends of rounds", x.ends(), 16);
    due("holds(0) of rounds", x.holds(0), 7);
    due("holds(11) of rounds", x.holds(11), 7);
    build(x, "a0 a1 ? l03 a3 ; p");
    // Behind 3 there is nothing, 0 or 1, over 1 + 2 + 4 + 8 runs.
    due("ends", x.ends(), 3);
    due("holds(0)", x.holds(0), 7);
    due("holds(1)", x.holds(1), 7);
    due("holds(3)", x.holds(3), 15);
    build(x, "w1 w2 ? p");
    due("nothing held", x.ends(), 1);
    due("nothing held", x.holds(0), 0);
    CycleBounds y = with(2, 4, "a0 a4 ; a8 ; a1 ; a5 ; a9 ; a2 ; a3 ; p");
    due("one end", y.ends(), 1);
    for (int m = 0; m < 12; m++) {
      due("all held", y.holds(m), m == 6 || m == 7 || m == 10 || m == 11 ? 0 : 1);
    }
  }

  private static void constants() {
    due("BAD_ARG", CycleBounds.BAD_ARG, BAD_ARG);
    due("FULL", CycleBounds.FULL, FULL);
    due("TOO_FEW", CycleBounds.TOO_FEW, TOO_FEW);
    due("NONE", CycleBounds.NONE, NONE);
    due("TOO_MANY", CycleBounds.TOO_MANY, TOO_MANY);
  }

  public static void main(String[] args) {
    constants();
    promise1();
    promise2();
    promise3();
    promise4();
    promise5();
    promise6and7();
    promise8();
    promise8limits();
    promise9and10();
    promise11to13();
    promise14();
    promise15();
    promise16to19();
    promise20and21();
    System.out.println(wrong == 0 ? "promises: all answers are as due" : wrong + " answers are not as due");
    if (wrong != 0) {
      System.exit(1);
    }
  }
}
