/** What the document promises, one promise after the other: ordinary inputs, the edges that it names, wrong inputs. */
public final class PromiseTests extends Checks {

    // ---- answers, the road

    private static void aNewObject() {
        says("Promise 1");
        NotYetSaid x = new NotYetSaid();
        for (int what = 0; what <= 6; what++) {
            due("many(" + what + ")", x.many(what), 0);
        }
        state(x, 0, 100);
        due("again()", x.again(), NONE);
        due("seed(1)", x.seed(1), 1);
        due("item(0, 0, 0)", x.item(0, 0, 0), -11);
        due("taken(0, 0)", x.taken(0, 0), -11);
        due("row(0, 0)", x.row(0, 0), -9);
        due("judge()", x.judge(), 0);
        NotYetSaid y = trip();
        y.say(0);
        due("another object's many(0)", x.many(0), 0);
        due("another object's state(0)", x.state(0), 0);
    }

    private static void answer() {
        says("Promise 2");
        NotYetSaid x = new NotYetSaid();
        int[][] bad = {{0, 1, 0, 0}, {6, 1, 0, 0}, {LEAST, 1, 0, 0}, {MOST, 1, 0, 0}, {1, 0, 0, 0}, {1, 61, 0, 0},
            {1, -1, 0, 0}, {1, 1, -1, 0}, {1, 1, 101, 0}, {1, 1, 0, -1}, {1, 1, 0, 10}, {1, 1, 0, MOST}};
        for (int[] b : bad) {
            due("answer, bad", x.answer(b[0], b[1], b[2], b[3]), BAD);
        }
        due("many(0)", x.many(0), 0);
        due("answer(1, 1, 0, 0)", x.answer(1, 1, 0, 0), 0);
        due("answer(5, 60, 100, 9)", x.answer(5, 60, 100, 9), 1);
        for (int a = 2; a < 9; a++) {
            due("answer " + a, x.answer(1 + a % 5, a, a, a), a);
        }
        due("the tenth", x.answer(1, 1, 0, 0), FULL);
        due("a bad tenth", x.answer(0, 1, 0, 0), BAD);
        due("many(0)", x.many(0), 9);
        due("answerOf(8, 1)", x.answerOf(8, 1), 8);
        due("answerOf(1, 1)", x.answerOf(1, 1), 60);
        due("answerOf(1, 2)", x.answerOf(1, 2), 100);
    }

    private static void answerOf() {
        says("Promise 3");
        NotYetSaid x = trip();
        int[][] all = {{1, 20, 10, 4, 0, 20, 1}, {2, 15, 0, 2, 0, 15, 1}, {3, 12, 5, 3, 0, 12, 1}, {4, 10, 3, 5, 0, 10, 1},
            {5, 8, 20, 2, 0, 16, 1}};
        for (int a = 0; a < 5; a++) {
            for (int what = 0; what <= 6; what++) {
                due("answerOf(" + a + ", " + what + ")", x.answerOf(a, what), all[a][what]);
            }
        }
        for (int a : new int[] {-1, 5, 9, LEAST, MOST}) {
            due("answerOf(" + a + ", 0)", x.answerOf(a, 0), BAD);
        }
        for (int what : new int[] {-1, 7, LEAST, MOST}) {
            due("answerOf(0, " + what + ")", x.answerOf(0, what), BAD);
        }
        x.belief(9);
        due("too dear", x.answerOf(0, 6), 0);
        x.belief(10);
        due("just not too dear", x.answerOf(0, 6), 1);
        x.change(0, 3, 0);
        due("none left", x.answerOf(0, 6), 0);
        due("over", new NotYetSaid().answer(1, 5, 0, 1), 0);
        holdsNow();
    }

    /** By kinds and MOODS; HOLDS of each is 9 at first. */
    private static void holdsNow() {
        int[][] byMood = {{9, 9, 9}, {9, 9, 14}, {9, 9, 14}, {9, 4, 9}, {18, 8, 18}};
        for (int kind = 1; kind <= 5; kind++) {
            for (int mood = 0; mood <= 2; mood++) {
                NotYetSaid x = road(99, mood);
                x.answer(kind, 9, 0, 9);
                due("holds now of " + kind + " by " + mood, x.answerOf(0, 5), byMood[kind - 1][mood]);
            }
        }
        NotYetSaid soon = road(99, 0);
        soon.answer(1, 20, 0, 9);
        int[] soons = {20, 10, 6, 5, 4, 3};
        for (int h : soons) {
            due("soon, told again", soon.answerOf(0, 5), h);
            soon.say(0);
        }
        NotYetSaid song = road(99, 2);
        song.answer(3, 2, 0, 9);
        int[] songs = {7, 5, 3, 1, 1, 1};
        for (int h : songs) {
            due("song, told again", song.answerOf(0, 5), h);
            song.say(0);
        }
        NotYetSaid least = road(99, 1);
        least.answer(4, 1, 0, 9);
        least.answer(5, 1, 0, 9);
        due("half of 1", least.answerOf(0, 5), 1);
        due("twice half of 1", least.answerOf(1, 5), 1);
        least.change(1, 1, 3);
        due("twice half of 3", least.answerOf(1, 5), 2);
        NotYetSaid over = road(5, 2);
        over.answer(2, 9, 0, 9);
        over.say(0);
        due("MOOD is plain when it is over", over.answerOf(0, 5), 9);
        due("none can be told when it is over", over.answerOf(0, 6), 0);
    }

    private static void change() {
        says("Promise 4");
        NotYetSaid x = trip();
        due("change(0, 1, 60)", x.change(0, 1, 60), 20);
        due("change(0, 1, 1)", x.change(0, 1, 1), 60);
        due("answerOf(0, 1)", x.answerOf(0, 1), 1);
        due("change(0, 2, 100)", x.change(0, 2, 100), 10);
        due("change(0, 2, 0)", x.change(0, 2, 0), 100);
        due("change(0, 3, 9)", x.change(0, 3, 9), 4);
        due("change(0, 3, 0)", x.change(0, 3, 0), 9);
        int[][] bad = {{0, 0, 1}, {0, 4, 1}, {0, -1, 1}, {0, 1, 0}, {0, 1, 61}, {0, 2, -1}, {0, 2, 101}, {0, 3, -1}, {0, 3, 10},
            {-1, 1, 5}, {5, 1, 5}, {LEAST, 1, 5}, {0, MOST, 5}, {0, 1, MOST}};
        for (int[] b : bad) {
            due("change, bad", x.change(b[0], b[1], b[2]), BAD);
        }
        due("answerOf(0, 1)", x.answerOf(0, 1), 1);
        due("answerOf(0, 2)", x.answerOf(0, 2), 0);
        due("answerOf(0, 3)", x.answerOf(0, 3), 0);
        x.say(1);
        x.say(1);
        due("LEFT below TOLD", x.change(1, 3, 1), 2);
        due("TOLD stays", x.answerOf(1, 4), 2);
        due("it can't be told", x.answerOf(1, 6), 0);
    }

    private static void remake() {
        says("Promise 5");
        NotYetSaid x = trip();
        x.say(0);
        due("remake(0, 5)", x.remake(0, 5), 1);
        int[] now = {5, 20, 10, 4, 1, 20, 1};
        for (int what = 0; what <= 6; what++) {
            due("answerOf(0, " + what + ")", x.answerOf(0, what), now[what]);
        }
        due("remake(0, 2)", x.remake(0, 2), 5);
        due("remake(0, 1)", x.remake(0, 1), 2);
        due("told once, as a soon", x.answerOf(0, 5), 10);
        for (int kind : new int[] {0, 6, -1, LEAST, MOST}) {
            due("remake(0, " + kind + ")", x.remake(0, kind), BAD);
        }
        due("remake(-1, 1)", x.remake(-1, 1), BAD);
        due("remake(5, 1)", x.remake(5, 1), BAD);
        due("answerOf(0, 0)", x.answerOf(0, 0), 1);
    }

    private static void leg() {
        says("Promise 6");
        NotYetSaid x = new NotYetSaid();
        int[][] bad = {{0, 0}, {100, 0}, {-1, 0}, {5, -1}, {5, 3}, {LEAST, 0}, {5, MOST}};
        for (int[] b : bad) {
            due("leg, bad", x.leg(b[0], b[1]), BAD);
        }
        due("leg(1, 0)", x.leg(1, 0), 0);
        due("leg(99, 2)", x.leg(99, 2), 1);
        for (int k = 2; k < 8; k++) {
            due("leg " + k, x.leg(10, 1), k);
        }
        due("the ninth", x.leg(10, 1), FULL);
        due("a bad ninth", x.leg(0, 1), BAD);
        due("many(2)", x.many(2), 8);
        due("state(4)", x.state(4), 160);
        NotYetSaid y = road(5, 0);
        y.answer(1, 5, 0, 9);
        y.say(0);
        due("it is over", y.can(), 0);
        due("one more", y.leg(7, 2), 1);
        due("and isn't any more", y.can(), 1);
        due("state(2)", y.state(2), 1);
        due("state(3)", y.state(3), 2);
    }

    private static void legOf() {
        says("Promise 7");
        NotYetSaid x = trip();
        int[][] all = {{20, 0}, {15, 1}, {30, 2}};
        for (int k = 0; k < 3; k++) {
            due("legOf(" + k + ", 0)", x.legOf(k, 0), all[k][0]);
            due("legOf(" + k + ", 1)", x.legOf(k, 1), all[k][1]);
        }
        int[][] bad = {{-1, 0}, {3, 0}, {8, 0}, {0, -1}, {0, 2}, {LEAST, 0}, {MOST, 1}, {0, MOST}};
        for (int[] b : bad) {
            due("legOf, bad", x.legOf(b[0], b[1]), BAD);
        }
    }

    private static void drives() {
        says("Promise 8");
        NotYetSaid x = trip();
        due("the leg now at minute 0", x.drives(0, 10, 2), 55);
        due("legOf(0, 0)", x.legOf(0, 0), 10);
        due("legOf(0, 1)", x.legOf(0, 1), 2);
        due("a later one", x.drives(2, 99, 0), 124);
        int[][] bad = {{-1, 5, 0}, {3, 5, 0}, {0, 0, 0}, {0, 100, 0}, {0, 5, -1}, {0, 5, 3}, {LEAST, 5, 0}, {MOST, 5, 0}};
        for (int[] b : bad) {
            due("drives, bad", x.drives(b[0], b[1], b[2]), BAD);
        }
        x.change(1, 1, 10);
        due("10 minutes more by a jam", x.say(1), 15);
        due("behind it", x.drives(0, 20, 0), STATE);
        due("within it", x.drives(1, 20, 0), STATE);
        due("bad, within it", x.drives(1, 0, 0), BAD);
        due("ahead of it", x.drives(2, 1, 1), 26);
        due("legOf(1, 0)", x.legOf(1, 0), 15);
        NotYetSaid y = road(10, 0);
        y.leg(10, 0);
        y.answer(2, 10, 0, 1);
        y.say(0);
        due("where it just begins", y.drives(1, 20, 0), STATE);
        NotYetSaid z = road(10, 0);
        z.answer(2, 1, 0, 1);
        z.say(0);
        due("at minute 1", z.drives(0, 20, 0), STATE);
    }

    private static void belief() {
        says("Promise 9");
        NotYetSaid x = trip();
        due("belief(0)", x.belief(0), 100);
        due("belief(100)", x.belief(100), 0);
        due("belief(50)", x.belief(50), 100);
        for (int v : new int[] {-1, 101, LEAST, MOST}) {
            due("belief(" + v + ")", x.belief(v), BAD);
        }
        due("state(1)", x.state(1), 50);
    }

    private static void stateOf() {
        says("Promise 10");
        NotYetSaid x = trip();
        int[][] all = {{0, 100, 0, 0, 65}, {15, 100, 0, 0, 65}, {30, 100, 1, 1, 65}, {35, 97, 2, 2, 65}, {52, 92, 2, 2, 65},
            {65, 82, 3, 0, 65}};
        int[] says = {1, 1, 3, 2, 0};
        for (int k = 0; k < all.length; k++) {
            for (int what = 0; what <= 4; what++) {
                due("state(" + what + ") behind " + k, x.state(what), all[k][what]);
            }
            if (k < says.length) {
                x.say(says[k]);
            }
        }
        for (int what : new int[] {-1, 5, LEAST, MOST}) {
            due("state(" + what + ")", x.state(what), BAD);
        }
        NotYetSaid y = road(3, 1);
        y.leg(1, 2);
        y.answer(2, 1, 0, 9);
        int[][] legs = {{0, 1}, {0, 1}, {0, 1}, {1, 2}, {2, 0}};
        y.change(0, 1, 1);
        rules(y, "answer less 99;");
        for (int minute = 0; minute < 3; minute++) {
            due("state(2) at " + minute, y.state(2), legs[minute][0]);
            due("state(3) at " + minute, y.state(3), legs[minute][1]);
            due("say(0)", y.say(0), 1);
        }
        due("state(2) at 3", y.state(2), legs[3][0]);
        due("state(3) at 3", y.state(3), legs[3][1]);
        due("say(0)", y.say(0), 1);
        due("state(2) at 4", y.state(2), legs[4][0]);
        due("state(3) at 4", y.state(3), legs[4][1]);
    }

    private static void anew() {
        says("Promise 11");
        NotYetSaid x = trip();
        due("anew() at once", x.anew(), 0);
        x.say(0);
        x.say(3);
        x.seed(7);
        due("anew()", x.anew(), 25);
        state(x, 0, 100);
        for (int a = 0; a < 5; a++) {
            due("answerOf(" + a + ", 4)", x.answerOf(a, 4), 0);
        }
        due("z stays", x.seed(1), 7);
        due("many(0)", x.many(0), 5);
        due("many(2)", x.many(2), 3);
    }

    // ---- the rules

    private static void feedOf() {
        says("Promise 12");
        NotYetSaid x = new NotYetSaid();
        due("feed(0, 0)", x.feed(0L, 0), BAD);
        due("feed(0, 9)", x.feed(0L, 9), BAD);
        due("feed(0, -1)", x.feed(0L, -1), BAD);
        due("feed(0, MOST)", x.feed(0L, MOST), BAD);
        due("feed(.., 1)", x.feed('a', 1), 1);
        due("many(5)", x.many(5), 1);
        due("lowest first", feed(x, "nswer nil;"), 11);
        due("rules()", x.rules(), 1);
        due("many(5)", x.many(5), 0);
        for (int k = 1; k <= 24; k++) {
            due("feed, " + k, x.feed(0x2020202020202020L, 8), 8 * k);
        }
        due("7 more", x.feed(0x2020202020202020L, 7), 199);
        due("2 are more than 200", x.feed(0x2020L, 2), FULL);
        due("9 are bad", x.feed(0x2020L, 9), BAD);
        due("many(5)", x.many(5), 199);
        due("1 more", x.feed(0x20L, 1), 200);
        due("and none", x.feed(0x20L, 1), FULL);
        due("200 blanks", x.rules(), 0);
        due("as many again", x.feed(-1L, 8), 8);
        due("bytes above 127", x.rules(), -100);
    }

    private static void rulesOf() {
        says("Promise 13");
        faults();
        readable();
        NotYetSaid x = trip();
        due("one", rules(x, "answer more 3;"), 1);
        due("a fault", rules(x, "answer more 3; soon"), -119);
        due("many(1)", x.many(1), 1);
        due("THE RULES stay", x.answerOf(0, 5), 23);
        due("THE TAPE doesn't", x.many(5), 0);
        due("in place of all", rules(x, "soon less 2;game nil;"), 2);
        due("answerOf(0, 5)", x.answerOf(0, 5), 18);
        due("answerOf(1, 5)", x.answerOf(1, 5), 1);
        due("answerOf(2, 5)", x.answerOf(2, 5), 1);
        due("answerOf(3, 5)", x.answerOf(3, 5), 10);
        due("an empty TAPE", x.rules(), 0);
        due("answerOf(0, 5)", x.answerOf(0, 5), 20);
        conditions();
        deeds();
    }

    private static void readable() {
        Object[][] texts = {{"", 0}, {"   ", 0}, {"answer nil;", 1}, {" answer   nil  ; ", 1}, {"answer more5;", 1},
            {"soon more 0;game less 99;song nil;biscuit nil;stop nil;", 5}, {"answer more 0099;", 1},
            {"answer if 9999<leg nil;", 1}, {"answer if leg<2more 5;", 1}, {"answer if(leg<2)nil;", 1},
            {"answer if not not not leg = mood nil;", 1}, {"answer if (((told>1))) nil;", 1},
            {"answer if (leg=1)and((leg=1)or(leg=2))nil;", 1}, {"answer if not(not(not 1=1))nil;", 1},
            {"answer if 1=1or 2=2and 3=3nil;", 1}, {"soon nil;soon nil;soon nil;soon nil;soon nil;soon nil;soon nil;soon nil;", 8}};
        for (Object[] t : texts) {
            due("rules of '" + t[0] + "'", rules(new NotYetSaid(), (String) t[0]), (Integer) t[1]);
        }
    }

    private static void faults() {
        Object[][] texts = {{"x", 0}, {"  more 5;", 2}, {"5", 0}, {";", 0}, {"answers nil;", 0}, {"Answer nil;", 0}, {"if", 0},
            {"answer", 6}, {"answer ", 7}, {"answer;", 6}, {"answer game", 7}, {"answer more", 11}, {"answer more ", 12},
            {"answer more;", 11}, {"answer more nil;", 12}, {"answer more 100;", 12}, {"answer more 12345;", 12},
            {"answer less 0100;", 12}, {"answer less 5", 13}, {"answer less 5 6;", 14}, {"answer nil 5;", 11}, {"answer nil", 10},
            {"answer nil;x", 11}, {"answer nil;;", 11}, {"answernil;", 0}, {"answer nilx;", 7}, {"gamez nil;", 0}, {"answer nilz;", 7}, {"xnswer nil;", 0}, {"noon nil;", 0}, {"a nil;", 0},
            {"gam nil;", 0}, {"agame nil;", 0}, {"answer  soon nil;", 8}, {"answer mor", 7}, {"answer\tnil;", 6},
            {"answer if nil;", 10}, {"answer if", 9}, {"answer if leg", 13}, {"answer if leg nil;", 14}, {"answer if leg=", 14},
            {"answer if leg==1 nil;", 14}, {"answer if leg=1", 15}, {"answer if leg=1;", 15}, {"answer if leg=1 2 nil;", 16},
            {"answer if leg=10000 nil;", 14}, {"answer if 12345=1 nil;", 10}, {"answer if leg=1 and nil;", 20},
            {"answer if leg=1 not nil;", 16}, {"answer if leg=1) nil;", 15}, {"answer if (leg=1 nil;", 17}, {"answer if (leg=1", 16},
            {"answer if ((((leg=1)))) nil;", 13}, {"answer if (((leg=1)and (((leg=1)))))nil;", 24},
            {"answer if not and 1=1 nil;", 14}, {"answer if () nil;", 11}, {"answer if leg<mood<told nil;", 18},
            {"answer if soon=1 nil;", 10}, {"answer if (leg=1)=1 nil;", 17}, {"answer if leg=1 if leg=2 nil;", 16},
            {"soon nil;soon nil;soon nil;soon nil;soon nil;soon nil;soon nil;soon nil; soon nil;", 73},
            {"soon nil;soon nil;soon nil;soon nil;soon nil;soon nil;soon nil;soon nil; x", 73},
            {"answer if leg=1 \u00ff nil;", 16}, {"answer if leg\u0000=1 nil;", 13}, {"answer-nil;", 6}};
        for (Object[] t : texts) {
            due("rules of '" + t[0] + "'", rules(new NotYetSaid(), (String) t[0]), -100 - (Integer) t[1]);
        }
    }

    /** Each condition with what it is, as seen by ANSWER 1, told once, BELIEF 95, on LEG 1, MOOD 2. */
    private static void conditions() {
        Object[][] all = {{"leg=1", 1}, {"leg<1", 0}, {"leg>0", 1}, {"leg>1", 0}, {"mood=2", 1}, {"told=1", 1}, {"belief=95", 1},
            {"belief<95", 0}, {"belief<96", 1}, {"number=1", 1}, {"number=0", 0}, {"1<2", 1}, {"2<1", 0}, {"0001=1", 1},
            {"not leg=1", 0}, {"not not leg=1", 1}, {"not not not leg=1", 0}, {"1=1 or 1=1 and 1=2", 1}, {"1=2 and 1=1 or 1=1", 1},
            {"1=2 and (1=1 or 1=1)", 0}, {"not 1=2 and 1=2", 0}, {"not (1=2 and 1=2)", 1}, {"not 1=1 or 1=1", 1},
            {"not (1=1 or 1=1)", 0}, {"1=2 or 1=2 or 1=1", 1}, {"1=2 or 1=2 or 1=2", 0}, {"1=1 and 1=1 and 1=2", 0},
            {"1=1 and 1=1 and 1=1", 1}, {"1=2 or 1=1 and 1=1 or 1=2", 1}, {"((1=2 or 1=1) and (1=1 or 1=2))", 1},
            {"1=1 and (1=2 or (1=1 and (1=2 or 1=1)))", 1}, {"1=1 and (1=2 or (1=1 and (1=2 or 2=1)))", 0},
            {"leg<mood", 1}, {"told>number", 0}, {"told=number", 1}, {"not(leg=0)and not(mood=0)", 1},
            {"1=leg", 1}, {"2<leg", 0}, {"2=mood", 1}, {"1=told", 1}, {"95=belief", 1}, {"1=number", 1}, {"0=leg", 0},
            {"1=2 or 1=1 and 1=2", 0}, {"1=1 or 1=2 and 1=2 or 1=2", 1}, {"1=2 or 1=1 and 1=1 and 1=2", 0}};
        for (Object[] c : all) {
            NotYetSaid x = road(5, 0);
            x.leg(90, 2);
            x.answer(2, 7, 0, 9);
            x.answer(2, 7, 5, 9);
            x.say(1);
            due("one of " + c[0], rules(x, "answer if " + c[0] + " more 40;"), 1);
            due("whether " + c[0], x.answerOf(1, 5), (Integer) c[1] == 1 ? 52 : 12);
        }
    }

    private static void deeds() {
        NotYetSaid x = trip();
        rules(x, "answer less 99;");
        for (int a = 0; a < 5; a++) {
            due("0 at least, then 1", x.answerOf(a, 5), 1);
        }
        rules(x, "answer less 7;");
        due("less by 7", x.answerOf(0, 5), 13);
        rules(x, "stop more 3;biscuit more 2;answer more 1;");
        int[] each = {21, 16, 13, 12, 22};
        for (int a = 0; a < 5; a++) {
            due("the first whose KIND is its or above", x.answerOf(a, 5), each[a]);
        }
        rules(x, "answer more 1;stop more 3;");
        due("the first one counts", x.answerOf(4, 5), 18);
        rules(x, "answer if told=0 nil;answer more 1;");
        due("nil", x.answerOf(0, 5), 1);
        x.say(0);
        due("its condition doesn't hold, the next one's does", x.answerOf(0, 5), 10);
        rules(x, "answer if 1=2 more 40;answer more 30;");
        due("behind a condition that doesn't hold", x.answerOf(1, 5), 45);
        rules(x, "song more 30;game more 20;");
        x.anew();
        due("game isn't below song", x.answerOf(1, 5), 35);
        due("song", x.answerOf(2, 5), 42);
        NotYetSaid jam = road(99, 2);
        jam.answer(2, 9, 0, 9);
        rules(jam, "answer nil;");
        due("5 more by a jam", jam.answerOf(0, 5), 5);
        rules(jam, "answer less 99;");
        due("0 at least, and 5 more by a jam", jam.answerOf(0, 5), 5);
        NotYetSaid over = road(5, 2);
        over.answer(2, 5, 0, 9);
        over.say(0);
        rules(over, "answer if leg=1 and mood=0 more 40;");
        due("the LEG now, when it is over", over.answerOf(0, 5), 45);
    }

    // ---- answers told

    private static void say() {
        says("Promise 14");
        NotYetSaid x = trip();
        due("say(1)", x.say(1), 15);
        due("say(0)", x.say(0), 20);
        state(x, 35, 90);
        due("answerOf(0, 4)", x.answerOf(0, 4), 1);
        due("say(-1)", x.say(-1), BAD);
        due("say(5)", x.say(5), BAD);
        due("say(LEAST)", x.say(LEAST), BAD);
        x.belief(9);
        due("too dear", x.say(0), STATE);
        state(x, 35, 9);
        due("say(1)", x.say(1), 20);
        due("none left", x.say(1), STATE);
        due("not beyond THE END", x.say(3), 10);
        due("over", x.say(2), STATE);
        due("answerOf(2, 4)", x.answerOf(2, 4), 0);
        state(x, 65, 6);
        NotYetSaid y = road(50, 0);
        y.answer(2, 50, 100, 1);
        due("all that is believed", y.say(0), 50);
        state(y, 50, 0);
    }

    private static void can() {
        says("Promise 15");
        NotYetSaid x = trip();
        due("can()", x.can(), 31);
        x.belief(4);
        due("can()", x.can(), 10);
        x.change(1, 3, 0);
        due("can()", x.can(), 8);
        x.belief(0);
        due("can()", x.can(), 0);
        due("without LEGS", new NotYetSaid().can(), 0);
        NotYetSaid y = road(9, 0);
        for (int a = 0; a < 9; a++) {
            y.answer(2, 9, 0, 1);
        }
        due("nine", y.can(), 511);
        y.say(8);
        due("over", y.can(), 0);
    }

    /** One minute, and one ANSWER that holds for it and takes all that is believed. */
    private static NotYetSaid allForAMinute() {
        NotYetSaid x = road(1, 0);
        x.answer(2, 1, 100, 1);
        return x;
    }

    /** A ride of 30 minutes; 0 holds 10 for nothing, 1 20 for 30, 2 30 for 90, 3 15 for 10; each as often as one likes. */
    private static NotYetSaid choice() {
        NotYetSaid x = road(30, 0);
        x.answer(2, 10, 0, 9);
        x.answer(2, 20, 30, 9);
        x.answer(2, 30, 90, 9);
        x.answer(2, 15, 10, 9);
        return x;
    }

    private static void fewest() {
        says("Promise 16");
        NotYetSaid x = choice();
        due("one is enough", x.fewest(), 1);
        x.belief(89);
        due("two", x.fewest(), 2);
        x.belief(9);
        due("three", x.fewest(), 3);
        x.change(0, 1, 8);
        due("four", x.fewest(), 4);
        x.change(0, 1, 7);
        due("five are too many", x.fewest(), NONE);
        due("over", new NotYetSaid().fewest(), 0);
        due("trip", trip().fewest(), 4);
        due("all for a minute", allForAMinute().fewest(), 1);
        state(x, 0, 9);
    }

    private static void ith() {
        says("Promise 17");
        NotYetSaid x = choice();
        due("ith(0)", x.ith(0), 2);
        due("ith(1)", x.ith(1), NONE);
        x.belief(89);
        due("ith(0)", x.ith(0), 0);
        due("ith(1)", x.ith(1), 1);
        due("ith(2)", x.ith(2), NONE);
        x.belief(29);
        due("ith(0)", x.ith(0), 3);
        due("ith(1)", x.ith(1), 3);
        x.belief(9);
        due("ith(2)", x.ith(2), 0);
        due("ith(3)", x.ith(3), NONE);
        for (int i : new int[] {-1, 4, LEAST, MOST}) {
            due("ith(" + i + ")", x.ith(i), BAD);
        }
        x.change(0, 3, 2);
        due("none arrives", x.ith(0), NONE);
        int[] first = {0, 0, 1, 1};
        NotYetSaid y = trip();
        for (int i = 0; i < 4; i++) {
            due("ith(" + i + ")", y.ith(i), first[i]);
        }
        state(y, 0, 100);
        due("over", new NotYetSaid().ith(0), NONE);
        due("all for a minute", allForAMinute().ith(0), 0);
    }

    private static void ways() {
        says("Promise 18");
        NotYetSaid x = road(20, 0);
        x.answer(2, 20, 0, 1);
        x.answer(2, 10, 0, 2);
        due("ways(0)", x.ways(0), 0);
        due("ways(1)", x.ways(1), 1);
        due("ways(2)", x.ways(2), 3);
        due("ways(3)", x.ways(3), 3);
        x.change(1, 1, 5);
        x.change(1, 3, 9);
        due("ways(3)", x.ways(3), 3);
        due("ways(4)", x.ways(4), 5);
        for (int n : new int[] {-1, 5, LEAST, MOST}) {
            due("ways(" + n + ")", x.ways(n), BAD);
        }
        due("the empty one", new NotYetSaid().ways(4), 1);
        due("trip", trip().ways(4), 62);
        due("all for a minute", allForAMinute().ways(1), 1);
    }

    private static void far() {
        says("Promise 19");
        NotYetSaid x = trip();
        int[] farthest = {0, 20, 36, 56, 65};
        for (int n = 0; n <= 4; n++) {
            due("far(" + n + ")", x.far(n), farthest[n]);
        }
        for (int n : new int[] {-1, 5, LEAST, MOST}) {
            due("far(" + n + ")", x.far(n), BAD);
        }
        x.say(1);
        due("none told", x.far(0), 15);
        x.belief(0);
        due("what costs nothing", x.far(4), 30);
        due("without LEGS", new NotYetSaid().far(3), 0);
        due("all for a minute", allForAMinute().far(1), 1);
    }

    private static void kind() {
        says("Promise 20");
        NotYetSaid x = choice();
        due("kind(0)", x.kind(0), NONE);
        due("kind(1)", x.kind(1), 10);
        due("kind(2)", x.kind(2), 80);
        due("kind(3)", x.kind(3), 100);
        due("kind(4)", x.kind(4), 100);
        x.belief(90);
        due("all of it", x.kind(1), 0);
        x.belief(89);
        due("too dear", x.kind(1), NONE);
        for (int n : new int[] {-1, 5, LEAST, MOST}) {
            due("kind(" + n + ")", x.kind(n), BAD);
        }
        due("over", new NotYetSaid().kind(0), 100);
        due("all for a minute", allForAMinute().kind(1), 0);
        state(x, 0, 89);
    }

    private static void kindly() {
        says("Promise 21");
        NotYetSaid x = choice();
        int[][] rows = {{}, {2}, {3, 3}, {0, 0, 0}, {0, 0, 0}};
        for (int n = 0; n <= 4; n++) {
            for (int i = 0; i <= 3; i++) {
                due("kindly(" + n + ", " + i + ")", x.kindly(n, i), i < rows[n].length ? rows[n][i] : NONE);
            }
        }
        x.change(0, 3, 1);
        due("the FIRST of two with that BELIEF", x.kindly(2, 0), 3);
        x.change(0, 2, 5);
        x.change(1, 2, 15);
        due("the FIRST of three with that BELIEF", x.kindly(2, 0), 0);
        due("the FIRST of three with that BELIEF", x.kindly(2, 1), 1);
        int[][] bad = {{-1, 0}, {5, 0}, {0, -1}, {0, 4}, {LEAST, 0}, {4, MOST}};
        for (int[] b : bad) {
            due("kindly, bad", x.kindly(b[0], b[1]), BAD);
        }
        int[] first = {0, 1, 1, 3};
        NotYetSaid y = trip();
        for (int i = 0; i < 4; i++) {
            due("kindly(4, " + i + ")", y.kindly(4, i), first[i]);
        }
        due("none arrives", y.kindly(3, 0), NONE);
        due("over", new NotYetSaid().kindly(4, 0), NONE);
        due("all for a minute", allForAMinute().kindly(1, 0), 0);
        NotYetSaid z = road(20, 0);
        z.answer(2, 10, 0, 2);
        z.answer(2, 20, 0, 2);
        due("the FIRST isn't always the shortest", z.kindly(4, 0), 0);
        due("and then", z.kindly(4, 1), 0);
        due("and then", z.kindly(4, 2), NONE);
    }

    private static void needs() {
        says("Promise 22");
        NotYetSaid x = road(30, 0);
        x.answer(2, 20, 0, 1);
        x.answer(2, 5, 0, 2);
        x.answer(2, 5, 0, 2);
        due("one is needed", x.needs(), 1);
        x.change(1, 3, 1);
        x.change(2, 3, 1);
        due("all three", x.needs(), 7);
        x.change(2, 3, 0);
        due("none arrives", x.needs(), 0);
        x.change(1, 1, 10);
        due("two", x.needs(), 3);
        x.answer(2, 30, 0, 1);
        due("none is needed", x.needs(), 0);
        x.say(0);
        x.change(0, 3, 9);
        due("answerOf(0, 3)", x.answerOf(0, 3), 9);
        due("LEFT stays", x.needs(), 0);
        due("answerOf(0, 3)", x.answerOf(0, 3), 9);
        due("answerOf(0, 4)", x.answerOf(0, 4), 1);
        due("over", new NotYetSaid().needs(), 0);
        due("all for a minute", allForAMinute().needs(), 1);
    }

    private static void more() {
        says("Promise 23");
        NotYetSaid x = road(30, 0);
        x.answer(2, 10, 20, 3);
        x.answer(2, 10, 5, 1);
        x.answer(2, 10, 1, 1);
        due("kind(4)", x.kind(4), 74);
        due("more()", x.more(), 2);
        x.change(2, 2, 5);
        due("of several the least", x.more(), 1);
        x.change(0, 2, 0);
        due("none helps", x.more(), NONE);
        due("answerOf(1, 3)", x.answerOf(1, 3), 1);
        NotYetSaid y = road(20, 0);
        y.answer(2, 20, 7, 0);
        y.answer(2, 19, 0, 1);
        due("kind(4)", y.kind(4), NONE);
        due("where none arrived", y.more(), 1);
        y.change(0, 2, 0);
        due("of several the least", y.more(), 0);
        y.belief(0);
        y.change(0, 2, 1);
        y.change(1, 3, 0);
        due("it doesn't arrive by that", y.more(), NONE);
        due("over", new NotYetSaid().more(), NONE);
        NotYetSaid all = allForAMinute();
        all.change(0, 3, 0);
        due("all for a minute", all.more(), 0);
        NotYetSaid z = road(99, 0);
        z.answer(2, 10, 0, 9);
        for (int k = 0; k < 9; k++) {
            z.say(0);
        }
        due("nine were told", z.kind(4), NONE);
        due("a tenth one", z.more(), 0);
        due("answerOf(0, 3)", z.answerOf(0, 3), 9);
        z.change(0, 3, 8);
        due("LEFT below TOLD: 1 more isn't enough", z.more(), NONE);
    }

    private static void beliefFor() {
        says("Promise 24");
        NotYetSaid x = choice();
        due("beliefFor(1)", x.beliefFor(1), 90);
        due("beliefFor(2)", x.beliefFor(2), 20);
        due("beliefFor(3)", x.beliefFor(3), 0);
        x.change(0, 3, 0);
        x.change(2, 3, 0);
        due("beliefFor(1)", x.beliefFor(1), NONE);
        for (int n : new int[] {0, 4, -1, LEAST, MOST}) {
            due("beliefFor(" + n + ")", x.beliefFor(n), BAD);
        }
        x.belief(3);
        due("whatever is believed now", x.beliefFor(2), 20);
        state(x, 0, 3);
        rules(x, "answer if belief<15 more 30;");
        due("THE RULES ask by it", x.beliefFor(1), 10);
        rules(x, "answer if belief=100 more 30;");
        due("100", x.beliefFor(1), 100);
        due("over", new NotYetSaid().beliefFor(3), 0);
        due("all for a minute", allForAMinute().beliefFor(1), 100);
    }

    private static void game() {
        says("Promise 25");
        NotYetSaid x = road(30, 0);
        x.answer(2, 10, 0, 1);
        due("who begins wins", x.game(2), 0);
        due("one was told: nobody", x.game(1), 2);
        x.change(0, 3, 2);
        due("the other one wins", x.game(3), 1);
        due("two were told: nobody", x.game(2), 2);
        x.change(0, 3, 0);
        due("none can be told", x.game(1), 1);
        x.change(0, 3, 2);
        x.answer(2, 30, 0, 1);
        due("nobody rather than to lose", x.game(3), 2);
        x.change(1, 1, 10);
        x.change(1, 3, 0);
        x.change(0, 3, 1);
        x.answer(2, 30, 0, 0);
        due("to win", x.game(4), 0);
        due("over", new NotYetSaid().game(4), 2);
        due("all for a minute", allForAMinute().game(4), 2);
        for (int n : new int[] {0, 5, -1, LEAST, MOST}) {
            due("game(" + n + ")", x.game(n), BAD);
        }
        state(x, 0, 100);
    }

    private static void play() {
        says("Promise 26");
        NotYetSaid x = road(30, 0);
        x.answer(2, 10, 100, 1);
        x.answer(2, 10, 10, 1);
        x.answer(2, 10, 95, 1);
        due("who begins wins", x.game(3), 0);
        due("by the least that leaves too little", x.play(3), 0);
        x.change(0, 2, 90);
        due("by this one the other tells one more", x.game(3), 0);
        due("by the next", x.play(3), 2);
        due("nobody, by any", x.play(1), 0);
        x.change(0, 3, 0);
        due("the least that can be told", x.play(1), 1);
        x.belief(0);
        due("none can be told", x.play(2), NONE);
        due("over", new NotYetSaid().play(1), NONE);
        due("all for a minute", allForAMinute().play(4), 0);
        for (int n : new int[] {0, 5, -1, LEAST, MOST}) {
            due("play(" + n + ")", x.play(n), BAD);
        }
        NotYetSaid two = road(30, 0);
        two.answer(2, 10, 1, 2);
        two.answer(2, 10, 100, 1);
        due("who begins wins", two.game(2), 0);
        due("by what leaves nothing", two.play(2), 1);
        due("nobody", two.game(1), 2);
        due("by the least", two.play(1), 0);
        NotYetSaid lost = road(30, 0);
        lost.answer(2, 10, 0, 1);
        lost.answer(2, 10, 0, 1);
        due("the other one wins", lost.game(4), 1);
        due("by the least", lost.play(4), 0);
    }

    // ---- a stranger, lots

    private static void report() {
        says("Promise 27");
        NotYetSaid x = new NotYetSaid();
        int[][] bad = {{-1, 0, 1}, {0, -1, 1}, {1000, 1000, 1}, {0, 1000, 1}, {5, 4, 1}, {0, 0, -1}, {0, 0, 2}, {LEAST, 0, 1},
            {0, MOST, 1}};
        for (int[] b : bad) {
            due("report, bad", x.report(b[0], b[1], b[2]), BAD);
        }
        due("many(3)", x.many(3), 0);
        due("report(0, 0, 1)", x.report(0, 0, 1), 0);
        due("report(999, 999, 1)", x.report(999, 999, 1), 1);
        due("report(0, 999, 0)", x.report(0, 999, 0), 2);
        for (int r = 3; r < 6; r++) {
            due("report " + r, x.report(1, 2, 1), r);
        }
        due("the seventh", x.report(1, 2, 1), FULL);
        due("a bad seventh", x.report(2, 1, 1), BAD);
        due("many(3)", x.many(3), 6);
    }

    private static void forget() {
        says("Promise 28");
        NotYetSaid x = new NotYetSaid();
        due("forget()", x.forget(), 0);
        x.report(0, 10, 1);
        x.report(0, 10, 0);
        due("span(0)", x.span(0), 0);
        due("forget()", x.forget(), 2);
        due("many(3)", x.many(3), 0);
        due("span(0)", x.span(0), 60);
        due("numbered anew", x.report(0, 5, 1), 0);
    }

    private static void span() {
        says("Promise 29");
        NotYetSaid x = new NotYetSaid();
        due("span(0)", x.span(0), 60);
        due("span(1)", x.span(1), 1);
        due("span(2)", x.span(2), 60);
        x.report(100, 110, 1);
        due("at the 10th minute behind it still", x.span(1), 11);
        x.report(200, 211, 0);
        due("at the 11th not", x.span(2), 11);
        due("one fits", x.span(0), 1);
        x.report(0, 11, 1);
        due("none fits", x.span(0), 0);
        due("span(1)", x.span(1), NONE);
        due("span(2)", x.span(2), NONE);
        for (int what : new int[] {-1, 3, LEAST, MOST}) {
            due("span(" + what + ")", x.span(what), BAD);
        }
        x.forget();
        x.report(5, 5, 0);
        due("it held for one minute at least", x.span(0), 0);
        x.forget();
        x.report(5, 65, 1);
        due("not for more than 60", x.span(0), 0);
        x.forget();
        x.report(5, 64, 1);
        due("60", x.span(1), 60);
    }

    private static void liar() {
        says("Promise 30");
        NotYetSaid x = new NotYetSaid();
        due("no REPORTS", x.liar(), NONE);
        x.report(0, 10, 1);
        due("some fit", x.liar(), NONE);
        x.report(0, 5, 0);
        due("of two the least", x.liar(), 0);
        x.report(0, 20, 1);
        due("the one", x.liar(), 1);
        x.report(0, 3, 0);
        due("two lie", x.liar(), NONE);
        x.forget();
        x.report(0, 0, 0);
        due("alone", x.liar(), 0);
        x.report(0, 1, 0);
        due("but for it 1 fits", x.liar(), 0);
        x.forget();
        x.report(0, 59, 1);
        x.report(0, 60, 1);
        due("but for it 60 fits", x.liar(), 1);
    }

    private static void seed() {
        says("Promise 31");
        NotYetSaid x = new NotYetSaid();
        due("seed(5)", x.seed(5), 1);
        due("seed(LEAST)", x.seed(LEAST), 5);
        due("seed(-3)", x.seed(-3), LEAST);
        due("seed(0)", x.seed(0), -3);
    }

    private static void draw() {
        says("Promise 32");
        NotYetSaid x = new NotYetSaid();
        due("none", x.draw(), NONE);
        due("z stays", x.seed(1), 1);
        x.leg(99, 0);
        x.answer(2, 1, 0, 9);
        x.answer(2, 1, 0, 9);
        x.answer(2, 1, 0, 9);
        int z = 1;
        for (int k = 0; k < 12; k++) {
            z = z * 1103515245 + 12345;
            due("draw " + k, x.draw(), (z >>> 16) % 3);
        }
        due("z", x.seed(-1), z);
        due("MINUTE", x.state(0), 12);
        z = -1 * 1103515245 + 12345;
        x.change(1, 3, 0);
        due("of 0 and 2", x.draw(), (z >>> 16) % 2 == 0 ? 0 : 2);
        NotYetSaid y = trip();
        y.say(1);
        y.say(1);
        y.seed(3);
        int[] drawn = {4, 4, 0};
        for (int a : drawn) {
            due("draw()", y.draw(), a);
        }
        state(y, 65, 50);
    }

    private static void often() {
        says("Promise 33");
        NotYetSaid x = road(10, 0);
        x.answer(2, 5, 70, 9);
        x.answer(2, 5, 40, 9);
        for (int n : new int[] {1, 2, 3, 10, 59, 60}) {
            due("often(" + n + ")", x.often(n), oftenOf(n));
        }
        due("z", x.seed(1), 1);
        state(x, 0, 100);
        due("answerOf(0, 4)", x.answerOf(0, 4), 0);
        for (int n : new int[] {0, 61, -1, LEAST, MOST}) {
            due("often(" + n + ")", x.often(n), BAD);
        }
        due("over", new NotYetSaid().often(60), 60);
        due("all for a minute", allForAMinute().often(4), 4);
        NotYetSaid y = road(31, 0);
        for (int a = 0; a < 4; a++) {
            y.answer(2, 1, 0, 9);
        }
        due("30 are not enough", y.often(5), 0);
        y.drives(0, 30, 0);
        due("30 are", y.often(5), 5);
    }

    /** Behind 70 nothing can be told any more; behind 40 the other 40 can, and it is over then. z is 1 at first. */
    private static int oftenOf(int n) {
        int z = 1;
        int over = 0;
        for (int run = 0; run < n; run++) {
            z = z * 1103515245 + 12345;
            if ((z >>> 16) % 2 == 1) {
                z = z * 1103515245 + 12345;
                over++;
            }
        }
        return over;
    }

    // ---- rows

    private static void prove() {
        says("Promise 34");
        NotYetSaid x = trip();
        due("prove()", x.prove(), 4);
        int[][] rows = {{0, 20, 90}, {0, 30, 80}, {1, 45, 80}, {1, 65, 80}};
        for (int k = 0; k < 4; k++) {
            for (int what = 0; what <= 2; what++) {
                due("row(" + k + ", " + what + ")", x.row(k, what), rows[k][what]);
            }
        }
        state(x, 0, 100);
        x.belief(0);
        due("there is none", x.prove(), NONE);
        due("ROWS stay", x.many(4), 4);
        due("row(3, 1)", x.row(3, 1), 65);
        x.belief(100);
        x.say(0);
        due("from how it is now", x.prove(), 3);
        due("many(4)", x.many(4), 3);
        due("row(0, 1)", x.row(0, 1), 30);
        due("row(3, 0)", x.row(3, 0), -9);
        NotYetSaid over = new NotYetSaid();
        due("over", over.prove(), 0);
        due("all for a minute", allForAMinute().prove(), 1);
        due("many(4)", over.many(4), 0);
    }

    private static void row() {
        says("Promise 35");
        NotYetSaid x = trip();
        due("row(0, 0)", x.row(0, 0), -9);
        x.prove();
        due("row(1, 0)", x.row(1, 0), 0);
        due("row(1, 1)", x.row(1, 1), 30);
        due("row(1, 2)", x.row(1, 2), 80);
        int[][] bad = {{-1, 0}, {4, 0}, {0, -1}, {0, 3}, {LEAST, 0}, {MOST, 2}, {0, MOST}};
        for (int[] b : bad) {
            due("row, bad", x.row(b[0], b[1]), -9);
        }
    }

    private static void alterRow() {
        says("Promise 36");
        NotYetSaid x = trip();
        due("alterRow(0, 0, 1)", x.alterRow(0, 0, 1), -9);
        x.prove();
        due("alterRow(2, 0, 77)", x.alterRow(2, 0, 77), 1);
        due("alterRow(2, 0, LEAST)", x.alterRow(2, 0, LEAST), 77);
        due("alterRow(2, 1, -9)", x.alterRow(2, 1, -9), 45);
        due("alterRow(2, 2, 0)", x.alterRow(2, 2, 0), 80);
        due("row(2, 0)", x.row(2, 0), LEAST);
        due("row(2, 1)", x.row(2, 1), -9);
        due("row(3, 1)", x.row(3, 1), 65);
        int[][] bad = {{-1, 0}, {4, 0}, {0, -1}, {0, 3}, {LEAST, 0}, {MOST, 2}};
        for (int[] b : bad) {
            due("alterRow, bad", x.alterRow(b[0], b[1], 5), -9);
        }
    }

    private static void judge() {
        says("Promise 37");
        NotYetSaid x = trip();
        due("no ROWS", x.judge(), 0);
        x.prove();
        due("all is right", x.judge(), 0);
        state(x, 0, 100);
        int[] rights = {0, 20, 90, 0, 30, 80, 1, 45, 80, 1, 65, 80};
        for (int k = 0; k < 4; k++) {
            for (int what = 0; what <= 2; what++) {
                for (int v : new int[] {-1, 5, LEAST, MOST, 101}) {
                    x.alterRow(k, what, v);
                    due("ROW " + k + " with " + what + " " + v, x.judge(), k + 1);
                }
                due("as it was", x.alterRow(k, what, rights[3 * k + what]), 101);
            }
        }
        due("all is right again", x.judge(), 0);
        x.say(1);
        due("not from here", x.judge(), 1);
        x.anew();
        x.leg(1, 0);
        due("behind the last one it isn't over", x.judge(), 4);
        NotYetSaid y = trip();
        y.prove();
        y.change(1, 3, 1);
        due("it can't be told behind those ahead", y.judge(), 4);
        NotYetSaid z = road(20, 0);
        z.answer(2, 20, 0, 9);
        z.answer(2, 10, 0, 9);
        z.change(0, 3, 0);
        z.prove();
        z.alterRow(0, 0, 0);
        z.alterRow(0, 1, 20);
        z.change(0, 3, 1);
        due("it is over ahead of the last one", z.judge(), 2);
    }

    // ---- the host

    private static void sheet() {
        says("Promise 38");
        NotYetSaid x = new NotYetSaid();
        int[][] bad = {{-1, 0, 1}, {4, 0, 1}, {0, -2, 1}, {0, 5, 1}, {0, 0, 41}, {LEAST, 0, 1}, {0, MOST, 1}, {0, 0, MOST},
            {4, 0, -1}, {0, 5, -1}, {-1, -1, 0}};
        for (int[] b : bad) {
            due("sheet, bad", x.sheet(b[0], b[1], b[2]), BAD);
        }
        due("a size below 0", x.sheet(0, 0, -1), -14);
        due("a size far below 0", x.sheet(3, 4, LEAST), -14);
        due("still missing", x.item(0, 0, 0), -11);
        for (int sort = 0; sort <= 4; sort++) {
            due("sheet(1, " + sort + ", 40)", x.sheet(1, sort, 40), 1);
            due("its last item", x.item(1, sort, 39), 0);
            due("behind it", x.item(1, sort, 40), -12);
            x.write(1, 39, 1);
            due("its last item", x.item(1, sort, 39), 1);
        }
        due("without items", x.sheet(2, 0, 0), 1);
        due("none", x.item(2, 0, 0), -12);
        x.sheet(0, 2, 3);
        x.write(0, 1, 7);
        due("a bad one", x.sheet(0, 2, 41), BAD);
        due("nothing changes", x.item(0, 2, 1), 7);
        due("-14", x.sheet(0, 2, -1), -14);
        due("nothing changes", x.item(0, 2, 1), 7);
        due("all 0", x.sheet(0, 2, 2), 1);
        due("item(0, 2, 1)", x.item(0, 2, 1), 0);
        due("item(0, 2, 2)", x.item(0, 2, 2), -12);
        due("missing", x.sheet(0, -1, -5), 1);
        due("item(0, 2, 1)", x.item(0, 2, 1), -11);
        due("missing", x.sheet(0, -1, 41), 1);
    }

    private static void write() {
        says("Promise 39");
        NotYetSaid x = new NotYetSaid();
        due("missing", x.write(0, 0, 1), -11);
        due("write(-1, 0, 1)", x.write(-1, 0, 1), BAD);
        due("write(4, 0, 1)", x.write(4, 0, 1), BAD);
        int[][] narrowed = {{127, 127, 127, 127, 127, 1}, {128, -128, 128, 128, 128, 1}, {-129, 127, -129, -129, -129, 1},
            {256, 0, 256, 256, 256, 1}, {32768, 0, -32768, 32768, 32768, 1}, {65536, 0, 0, 65536, 65536, 1},
            {MOST, -1, -1, MOST, MOST, 1}, {LEAST, 0, 0, LEAST, LEAST, 1}, {0, 0, 0, 0, 0, 0}, {-12, -12, -12, -12, -12, 1}};
        for (int sort = 0; sort <= 4; sort++) {
            x.sheet(2, sort, 4);
            for (int[] n : narrowed) {
                due("write(2, 3, " + n[0] + ")", x.write(2, 3, n[0]), 1);
                due("by " + sort, x.item(2, sort, 3), n[sort + 1]);
            }
            due("write(2, 4, 1)", x.write(2, 4, 1), -12);
            due("write(2, -1, 1)", x.write(2, -1, 1), -12);
            due("write(2, LEAST, 1)", x.write(2, LEAST, 1), -12);
            due("write(2, MOST, 1)", x.write(2, MOST, 1), -12);
            due("the others", x.item(2, sort, 2), 0);
        }
    }

    private static void item() {
        says("Promise 40");
        NotYetSaid x = new NotYetSaid();
        due("item(-1, 0, 0)", x.item(-1, 0, 0), BAD);
        due("item(4, 0, 0)", x.item(4, 0, 0), BAD);
        due("item(0, -1, 0)", x.item(0, -1, 0), BAD);
        due("item(0, 5, 0)", x.item(0, 5, 0), BAD);
        due("missing", x.item(0, 3, 99), -11);
        for (int sort = 0; sort <= 4; sort++) {
            x.sheet(0, sort, 2);
            x.write(0, 1, 1);
            for (int as = 0; as <= 4; as++) {
                due("of " + sort + " as " + as, x.item(0, as, 1), as == sort ? 1 : -13);
                due("outside, of " + sort + " as " + as, x.item(0, as, 2), as == sort ? -12 : -13);
                due("outside, of " + sort + " as " + as, x.item(0, as, -1), as == sort ? -12 : -13);
            }
        }
    }

    private static void tellAll() {
        says("Promise 41");
        NotYetSaid x = trip();
        due("tellAll(-1, 0, 1)", x.tellAll(-1, 0, 1), BAD);
        due("tellAll(4, 0, 1)", x.tellAll(4, 0, 1), BAD);
        due("tellAll(0, 0, -1)", x.tellAll(0, 0, -1), BAD);
        due("tellAll(0, 0, 21)", x.tellAll(0, 0, 21), BAD);
        due("missing", x.tellAll(0, 0, 1), -11);
        for (int sort = 1; sort <= 4; sort++) {
            x.sheet(0, sort, 3);
            due("of " + sort, x.tellAll(0, 0, 1), -13);
        }
        bytes(x, 0, 9, 1, -1, 5, 1, 1, 3);
        due("three, and one more is refused", x.tellAll(0, 1, 5), 30);
        state(x, 30, 100);
        due("answerOf(1, 4)", x.answerOf(1, 4), 2);
        due("none", x.tellAll(0, 0, 0), 0);
        due("none, from outside", x.tellAll(0, 99, 0), 0);
        due("beyond the last", x.tellAll(0, 6, 2), -12);
        due("what stood ahead was done", x.state(0), 35);
        due("ahead of the first", x.tellAll(0, -1, 8), -12);
        due("far away", x.tellAll(0, MOST, 20), -12);
        due("far away", x.tellAll(0, LEAST, 20), -12);
        due("nothing was done", x.state(0), 35);
        x.sheet(1, 0, 40);
        due("as many as can be", x.tellAll(1, 20, 20), 30);
        due("over", x.state(0), 65);
        due("all are refused", x.tellAll(1, 0, 20), 0);
    }

    private static void wouldCost() {
        says("Promise 42");
        NotYetSaid x = trip();
        due("wouldCost(-1, 0, 1)", x.wouldCost(-1, 0, 1), BAD);
        due("wouldCost(4, 0, 1)", x.wouldCost(4, 0, 1), BAD);
        due("wouldCost(0, 0, -1)", x.wouldCost(0, 0, -1), BAD);
        due("wouldCost(0, 0, 21)", x.wouldCost(0, 0, 21), BAD);
        due("missing", x.wouldCost(0, 0, 1), -11);
        due("missing, none asked", x.wouldCost(0, 0, 0), -11);
        x.sheet(0, 2, 3);
        due("of another sort", x.wouldCost(0, 0, 1), -13);
        due("of another sort, none asked", x.wouldCost(0, 0, 0), -13);
        bytes(x, 0, 0, 2, 4, 1, 1, 1, 9, 3);
        due("wouldCost(0, 0, 3)", x.wouldCost(0, 0, 3), 35);
        due("wouldCost(0, 1, 1)", x.wouldCost(0, 1, 1), 5);
        due("none", x.wouldCost(0, 0, 0), 0);
        due("none left", x.wouldCost(0, 3, 3), STATE);
        due("no such ANSWER", x.wouldCost(0, 6, 1), STATE);
        due("by items: STATE ahead of -12", x.wouldCost(0, 6, 9), STATE);
        due("by items: -12 at the end", x.wouldCost(0, 7, 2), -12);
        due("ahead of the first", x.wouldCost(0, -1, 2), -12);
        due("far away", x.wouldCost(0, MOST, 2), -12);
        state(x, 0, 100);
        due("answerOf(1, 4)", x.answerOf(1, 4), 0);
        x.belief(14);
        due("too dear behind the first", x.wouldCost(0, 0, 2), STATE);
        due("just not too dear", x.belief(15), 14);
        due("wouldCost(0, 0, 2)", x.wouldCost(0, 0, 2), 15);
    }

    private static void shelf() {
        says("Promise 43");
        NotYetSaid x = trip();
        x.sheet(1, 3, 7);
        int[][] bad = {{-1, 0, 0}, {4, 0, 0}, {0, -1, 0}, {0, 3, 0}, {0, 0, -1}, {0, 0, 5}, {0, 1, -1}, {0, 1, 4}, {LEAST, 0, 0},
            {0, MOST, 0}, {0, 0, MOST}, {-1, 2, 0}};
        for (int[] b : bad) {
            due("shelf, bad", x.shelf(b[0], b[1], b[2]), BAD);
        }
        due("still nothing", x.taken(0, 0), -11);
        due("shelf(0, 0, 4)", x.shelf(0, 0, 4), 1);
        due("taken(0, 5)", x.taken(0, 5), 4);
        due("a bad one", x.shelf(0, 0, 5), BAD);
        due("nothing changes", x.taken(0, 5), 4);
        due("shelf(0, 1, 1)", x.shelf(0, 1, 1), 1);
        due("taken(0, 13)", x.taken(0, 13), 7);
        x.sheet(1, 0, 2);
        due("the row that it was", x.taken(0, 13), 7);
        due("a missing one", x.shelf(0, 1, 2), 1);
        due("is nothing", x.taken(0, 13), -11);
        due("shelf(0, 0, 3)", x.shelf(0, 0, 3), 1);
        due("shelf(0, 2, 99)", x.shelf(0, 2, 99), 1);
        due("nothing", x.taken(0, 0), -11);
        due("the last one", x.shelf(3, 0, 0), 1);
        due("taken(3, 1)", x.taken(3, 1), 0);
    }

    private static void taken() {
        says("Promise 44");
        NotYetSaid x = trip();
        boolean[][] under = {{true, true, false, false, false, false}, {true, false, true, false, false, false},
            {true, false, true, true, false, false}, {true, false, false, false, true, false},
            {true, false, false, false, true, true}};
        for (int a = 0; a < 5; a++) {
            x.shelf(2, 0, a);
            for (int as = 0; as <= 5; as++) {
                due("answer " + a + " as " + as, x.taken(2, as), under[a][as] ? a : -13);
            }
            for (int as = 10; as <= 14; as++) {
                due("answer " + a + " as " + as, x.taken(2, as), -13);
            }
        }
        for (int sort = 0; sort <= 4; sort++) {
            x.sheet(0, sort, 5 + sort);
            x.shelf(1, 1, 0);
            for (int as = 0; as <= 5; as++) {
                due("row of " + sort + " as " + as, x.taken(1, as), -13);
            }
            for (int as = 10; as <= 14; as++) {
                due("row of " + sort + " as " + as, x.taken(1, as), as == 10 + sort ? 5 + sort : -13);
            }
        }
        for (int as : new int[] {-1, 6, 9, 15, LEAST, MOST}) {
            due("as " + as, x.taken(1, as), BAD);
        }
        due("taken(-1, 0)", x.taken(-1, 0), BAD);
        due("taken(4, 0)", x.taken(4, 0), BAD);
        for (int as : new int[] {0, 5, 10, 14}) {
            due("nothing as " + as, x.taken(0, as), -11);
        }
        x.shelf(0, 0, 0);
        x.remake(0, 3);
        due("of the KIND that it is now", x.taken(0, 3), 0);
        NotYetSaid y = road(9, 0);
        y.keep();
        y.answer(1, 5, 0, 1);
        y.shelf(0, 0, 0);
        y.again();
        due("there is no such one any more", y.taken(0, 0), -11);
        y.answer(2, 5, 0, 1);
        due("there is one again", y.taken(0, 2), 0);
    }

    /** Each KIND as ANSWER 1 with HOLDS 7, each act with x = 100. */
    private static void act() {
        says("Promise 45");
        // 100 + 7 = 107; 107 - 1 = 106; 100 by 6 is 16; 106 ^ 7 = 109
        // soon: 214; 214 - 1 = 213; 16; 213 ^ 7 = 210
        // game: 107; 106 ^ 1 = 107; 16; 107 ^ 7 = 108
        // song: 106; 105 ^ 1 = 104; 16; (104 ^ 7) + 7 by 6 = 111 + 1
        // biscuit: 107; 106; 97 by 6 = 16; 109
        // stop: 107; -106; 16 - (1 + 7); -106 ^ 7 = -111
        int[][] done = {{214, 213, 16, 210}, {107, 107, 16, 108}, {106, 104, 16, 112}, {107, 106, 16, 109}, {107, -106, 8, -111}};
        int[][][] bodies = {{{20, 10}, {11, 20, 10}, {12}, {13, 11, 20, 10}}, {{10}, {30, 11, 10}, {12}, {13, 30, 11, 10}},
            {{50, 10}, {30, 11, 50, 10}, {12}, {51, 13, 30, 11, 50, 10, 12}}, {{10}, {11, 10}, {40, 12}, {13, 11, 10}},
            {{10}, {60, 11, 10}, {61, 40, 12, 10}, {13, 60, 11, 10}}};
        for (int kind = 1; kind <= 5; kind++) {
            NotYetSaid x = new NotYetSaid();
            x.answer(1, 1, 0, 0);
            x.answer(kind, 7, 0, 0);
            x.shelf(3, 0, 1);
            for (int act = 0; act <= 3; act++) {
                due("act " + act + " of " + kind, x.act(3, act, 100), done[kind - 1][act]);
                trace(x, bodies[kind - 1][act]);
            }
            due("shares 98", x.act(3, 2, 98), kind == 4 ? 15 : kind == 5 ? 7 : 16);
            due("shares 99", x.act(3, 2, 99), kind == 5 ? 8 : 16);
            due("MOST says", x.act(3, 0, MOST), kind == 1 ? (MOST + 7) * 2 : kind == 3 ? MOST + 6 : MOST + 7);
        }
        actOf0();
        nothingActs();
    }

    /** Where n and a are the same. */
    private static void actOf0() {
        for (int kind = 1; kind <= 5; kind++) {
            NotYetSaid x = new NotYetSaid();
            x.answer(1, 1, 0, 0);
            x.answer(kind, 1, 0, 0);
            x.shelf(0, 0, 1);
            due("parted by 0, " + kind, x.act(0, 2, 5), -15);
            if (kind == 4) {
                trace(x, 40, 12);
            } else if (kind == 5) {
                trace(x, 61, 40, 12);
            } else {
                trace(x, 12);
            }
            due("song alone shares as it tells", x.act(0, 3, 5) == -15 ? 1 : 0, kind == 3 ? 1 : 0);
            due("says", x.act(0, 0, 5), kind == 1 ? 12 : kind == 3 ? 5 : 6);
        }
        NotYetSaid x = new NotYetSaid();
        x.answer(2, 3, 0, 0);
        x.shelf(0, 0, 0);
        due("cut towards 0", x.act(0, 2, -8), -2);
        due("-15 may be an answer, too", x.act(0, 2, -45), -15);
        x.change(0, 1, 60);
        due("HOLDS as it is now", x.act(0, 0, 1), 61);
        x.remake(0, 1);
        due("the KIND that it is now", x.act(0, 0, 1), 122);
    }

    private static void nothingActs() {
        NotYetSaid x = trip();
        x.sheet(0, 0, 3);
        x.shelf(1, 1, 0);
        x.shelf(0, 0, 4);
        int[][] none = {{-1, 0}, {4, 0}, {0, -1}, {0, 4}, {1, 0}, {2, 0}, {LEAST, 0}, {0, MOST}};
        for (int[] n : none) {
            due("act(0, 3, 1)", x.act(0, 3, 1), -5 ^ 8);
            due("many(6)", x.many(6), 4);
            due("act of nothing", x.act(n[0], n[1], 5), 0);
            trace(x);
        }
    }

    private static void traceOf() {
        says("Promise 46");
        NotYetSaid x = trip();
        due("trace(0)", x.trace(0), NONE);
        x.shelf(0, 0, 2);
        x.act(0, 3, 9);
        trace(x, 51, 13, 30, 11, 50, 10, 12);
        for (int i : new int[] {-1, 7, 30, LEAST, MOST}) {
            due("trace(" + i + ")", x.trace(i), NONE);
        }
        x.act(0, 0, 9);
        trace(x, 50, 10);
        x.taken(0, 0);
        x.say(0);
        trace(x, 50, 10);
    }

    private static void many() {
        says("Promise 47");
        NotYetSaid x = trip();
        rules(x, "answer nil;soon nil;");
        x.report(0, 1, 1);
        x.report(0, 1, 1);
        x.report(0, 1, 1);
        x.report(0, 1, 1);
        x.shelf(0, 0, 2);
        x.act(0, 3, 0);
        x.leg(5, 0);
        x.change(0, 1, 60);
        x.change(1, 1, 60);
        rules(x, "answer more 80;soon nil;");
        feed(x, "abc");
        x.prove();
        int[] counts = {5, 2, 4, 4, 1, 3, 7};
        for (int what = 0; what <= 6; what++) {
            due("many(" + what + ")", x.many(what), counts[what]);
        }
        for (int what : new int[] {-1, 7, LEAST, MOST}) {
            due("many(" + what + ")", x.many(what), BAD);
        }
    }

    // ---- kept

    private static void keep() {
        says("Promise 48");
        NotYetSaid x = trip();
        x.say(0);
        x.seed(42);
        x.report(0, 9, 1);
        rules(x, "answer more 1;");
        due("keep()", x.keep(), 1);
        due("it changes nothing", x.state(0), 20);
        x.prove();
        int rows = x.many(4);
        feed(x, "abc");
        x.sheet(0, 0, 3);
        x.shelf(0, 0, 3);
        x.act(0, 0, 0);
        x.again();
        due("ROWS are not kept", x.many(4), rows);
        due("THE TAPE isn't", x.many(5), 3);
        due("SHEETS aren't", x.item(0, 0, 2), 0);
        due("SHELVES aren't", x.taken(0, 4), 3);
        due("THE TRACE isn't", x.many(6), 1);
        NotYetSaid y = new NotYetSaid();
        y.keep();
        y.answer(1, 1, 1, 1);
        due("a new one is kept, too", y.again(), 0);
        due("many(0)", y.many(0), 0);
    }

    private static void again() {
        says("Promise 49");
        NotYetSaid x = trip();
        due("nothing is kept", x.again(), NONE);
        x.say(0);
        x.seed(42);
        x.report(0, 9, 1);
        rules(x, "answer more 1;");
        x.keep();
        for (int turn = 0; turn < 2; turn++) {
            x.say(3);
            x.answer(2, 1, 1, 1);
            x.remake(0, 5);
            x.change(1, 1, 33);
            x.change(1, 2, 33);
            x.change(1, 3, 3);
            x.leg(50, 2);
            x.drives(2, 99, 0);
            x.belief(7);
            rules(x, "soon nil;game nil;");
            x.forget();
            x.report(0, 30, 0);
            x.report(0, 30, 0);
            x.seed(4711);
            x.anew();
            due("again()", x.again(), 5);
            int[][] all = {{1, 20, 10, 4, 1, 10, 1}, {2, 15, 0, 2, 0, 16, 1}, {3, 12, 5, 3, 0, 13, 1}, {4, 10, 3, 5, 0, 5, 1},
                {5, 8, 20, 2, 0, 8, 1}};
            for (int a = 0; a < 5; a++) {
                for (int what = 0; what <= 6; what++) {
                    due("answerOf(" + a + ", " + what + ")", x.answerOf(a, what), all[a][what]);
                }
            }
            due("answerOf(5, 0)", x.answerOf(5, 0), BAD);
            state(x, 20, 90);
            due("state(4)", x.state(4), 65);
            due("many(1)", x.many(1), 1);
            due("many(2)", x.many(2), 3);
            due("legOf(2, 0)", x.legOf(2, 0), 30);
            due("legOf(2, 1)", x.legOf(2, 1), 2);
            due("state(2)", x.state(2), 1);
            due("many(3)", x.many(3), 1);
            due("span(0)", x.span(0), 51);
            due("z", x.seed(42), 42);
        }
        x.belief(50);
        x.keep();
        x.belief(1);
        x.again();
        due("the latest", x.state(1), 50);
    }

    public static void main(String[] args) {
        aNewObject();
        answer();
        answerOf();
        change();
        remake();
        leg();
        legOf();
        drives();
        belief();
        stateOf();
        anew();
        feedOf();
        rulesOf();
        say();
        can();
        fewest();
        ith();
        ways();
        far();
        kind();
        kindly();
        needs();
        more();
        beliefFor();
        game();
        play();
        report();
        forget();
        span();
        liar();
        seed();
        draw();
        often();
        prove();
        row();
        alterRow();
        judge();
        sheet();
        write();
        item();
        tellAll();
        wouldCost();
        shelf();
        taken();
        act();
        traceOf();
        many();
        keep();
        again();
        end();
    }
}
