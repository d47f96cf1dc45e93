/**
 * ANSWERS told, a stranger, lots and rows (part 3, promises 16 to 37): each sentence that names a bound, an edge or a
 * refusal, with the last value on either side of it; what is asked, or refused, changes nothing.
 */
public final class EdgeRowsTests extends Checks {

    private static void asked(String call, int want, Call c) {
        still(Checks::everything, call, want, c);
    }

    /** It is OVER; one ANSWER is left. */
    private static NotYetSaid over() {
        NotYetSaid x = one(10, 10, 5, 2);
        x.say(0);
        return x;
    }

    /** Ten ANSWERS' minutes of 100 that one holds; none can be told any more, and it isn't OVER. */
    private static NotYetSaid stuck() {
        NotYetSaid x = one(99, 10, 0, 1);
        x.say(0);
        return x;
    }

    // ---- rows

    private static void whatIsAskedChangesNothing() {
        says("Terms: What is asked changes nothing, if not told.");
        NotYetSaid x = everything();
        int[] due = {x.can(), x.fewest(), x.ith(0), x.ways(4), x.far(4), x.kind(4), x.kindly(4, 1), x.needs(), x.more(),
            x.beliefFor(3), x.game(4), x.play(4), x.span(0), x.liar(), x.often(60), x.judge(), x.wouldCost(0, 0, 2)};
        asked("can()", due[0], NotYetSaid::can);
        asked("fewest()", due[1], NotYetSaid::fewest);
        asked("ith(0)", due[2], y -> y.ith(0));
        asked("ways(4)", due[3], y -> y.ways(4));
        asked("far(4)", due[4], y -> y.far(4));
        asked("kind(4)", due[5], y -> y.kind(4));
        asked("kindly(4, 1)", due[6], y -> y.kindly(4, 1));
        asked("needs()", due[7], NotYetSaid::needs);
        asked("more()", due[8], NotYetSaid::more);
        asked("beliefFor(3)", due[9], y -> y.beliefFor(3));
        asked("game(4)", due[10], y -> y.game(4));
        asked("play(4)", due[11], y -> y.play(4));
        asked("span(0)", due[12], y -> y.span(0));
        asked("liar()", due[13], NotYetSaid::liar);
        asked("often(60)", due[14], y -> y.often(60));
        asked("judge()", due[15], NotYetSaid::judge);
        asked("wouldCost(0, 0, 2)", due[16], y -> y.wouldCost(0, 0, 2));
    }

    private static void oneBehindTheOther() {
        says("Terms: A ROW of ANSWERS: told one behind the other from how it is now, each as it CAN BE TOLD then.");
        NotYetSaid x = one(20, 10, 50, 2);
        due("ways(2), LEFT 2, BELIEF for 2", x.ways(2), 1);
        x.change(0, 3, 1);
        due("ways(2), LEFT 1", x.ways(2), 0);
        x.change(0, 3, 2);
        x.belief(99);
        due("ways(2), BELIEF for 1", x.ways(2), 0);
        x.belief(100);
        x.change(0, 1, 20);
        due("ways(2), over behind the first", x.ways(2), 1);
        NotYetSaid soon = road(30, 0);
        soon.answer(1, 20, 0, 2);
        due("ways(2), the second holds half as long", soon.ways(2), 1);
        soon.drives(0, 31, 0);
        due("ways(2), a minute more", soon.ways(2), 0);
        NotYetSaid ruled = one(30, 10, 0, 9);
        rules(ruled, "answer if told=1 more 10;");
        due("fewest(), THE RULES as they are then", ruled.fewest(), 2);
        says("Terms: It ARRIVES, if it is OVER behind its last one (the empty one, if it is OVER now).");
        due("ways(0), over", over().ways(0), 1);
        due("ways(4), over", over().ways(4), 1);
        due("ways(0), a minute ahead of THE END", one(1, 1, 0, 1).ways(0), 0);
        due("ways(1)", one(1, 1, 0, 1).ways(1), 1);
        due("ways(4)", one(1, 1, 0, 1).ways(4), 1);
    }

    private static void theFirstOfRows() {
        says("Terms: Of several ROWS the FIRST is that with the lesser number where they are unlike first.");
        NotYetSaid x = road(20, 0);
        x.answer(2, 5, 0, 1);
        x.answer(2, 10, 0, 2);
        x.answer(2, 15, 0, 1);
        // 0 2, 1 1, 1 2, 2 0, 2 1
        due("ways(2)", x.ways(2), 5);
        due("ith(0)", x.ith(0), 0);
        due("ith(1)", x.ith(1), 2);
        x.change(0, 3, 0);
        due("ith(0)", x.ith(0), 1);
        due("ith(1)", x.ith(1), 1);
        x.change(1, 3, 1);
        due("ith(0)", x.ith(0), 1);
        due("ith(1)", x.ith(1), 2);
        x.change(0, 3, 1);
        x.change(1, 3, 0);
        due("ith(0)", x.ith(0), 0);
        due("ith(1)", x.ith(1), 2);
        NotYetSaid nine = road(20, 0);
        for (int a = 0; a < 9; a++) {
            nine.answer(2, a < 7 ? 1 : 10, 0, a < 7 ? 0 : 1);
        }
        due("ith(0) of the last two", nine.ith(0), 7);
        due("ith(1) of the last two", nine.ith(1), 8);
    }

    private static void fewestAtEdges() {
        says("Promise 16: How many ANSWERS the shortest ROW has that ARRIVES (4 at most). NONE.");
        int[][] due = {{1, 1}, {10, 1}, {11, 2}, {20, 2}, {21, 3}, {30, 3}, {31, 4}, {40, 4}, {41, NONE}};
        for (int[] d : due) {
            due("fewest() of " + d[0] + " minutes", one(d[0], 10, 0, 9).fewest(), d[1]);
        }
        due("fewest(), over", over().fewest(), 0);
        due("fewest() of none", stuck().fewest(), NONE);
        due("fewest(), LEFT 3", one(40, 10, 0, 3).fewest(), NONE);
        due("fewest(), COSTS 25", one(40, 10, 25, 9).fewest(), 4);
        due("fewest(), COSTS 26", one(40, 10, 26, 9).fewest(), NONE);
        due("fewest() of a new one", new NotYetSaid().fewest(), 0);
        still(() -> one(41, 10, 0, 9), "fewest()", NONE, NotYetSaid::fewest);
    }

    private static void ithAtEdges() {
        says("Promise 17: The i-th (0 to 3) of the FIRST of these. BAD");
        refuses("ith(#)", BAD, NotYetSaid::ith, -1, 4, LEAST, MOST);
        refuses(() -> one(41, 10, 0, 9), "ith(#), NONE too", BAD, NotYetSaid::ith, -1, 4);
        for (int i = 0; i <= 3; i++) {
            due("ith(" + i + ") of four", one(40, 10, 0, 9).ith(i), 0);
        }
        says("Promise 17: NONE: there is none, or it has not so many.");
        for (int length = 0; length <= 3; length++) {
            NotYetSaid x = length == 0 ? over() : one(10 * length, 10, 0, 9);
            for (int i = 0; i <= 3; i++) {
                due("ith(" + i + ") of " + length, x.ith(i), i < length ? 0 : NONE);
            }
        }
        due("ith(0), nothing is believed then", one(10, 10, 100, 1).ith(0), 0);
        refuses(() -> one(41, 10, 0, 9), "ith(#) of none", NONE, NotYetSaid::ith, 0, 3);
        refuses(EdgeRowsTests::over, "ith(#), over", NONE, NotYetSaid::ith, 0, 3);
    }

    private static void waysAtEdges() {
        says("Promise 18: How many ROWS of n (0 to 4) or fewer ARRIVE. BAD.");
        refuses("ways(#)", BAD, NotYetSaid::ways, -1, 5, LEAST, MOST);
        NotYetSaid x = road(40, 0);
        for (int a = 0; a < 9; a++) {
            x.answer(2, 10, 0, 9);
        }
        int[] due = {0, 0, 0, 0, 6561};
        for (int n = 0; n <= 4; n++) {
            due("ways(" + n + ")", x.ways(n), due[n]);
        }
        x.drives(0, 10, 0);
        for (int n = 0; n <= 4; n++) {
            due("ways(" + n + "), each is enough", x.ways(n), n == 0 ? 0 : 9);
        }
        NotYetSaid y = road(20, 0);
        y.answer(2, 20, 0, 9);
        y.answer(2, 5, 0, 9);
        // 0; 1 0; 1 1 0; 1 1 1 0, 1 1 1 1
        int[] orFewer = {0, 1, 2, 3, 5};
        for (int n = 0; n <= 4; n++) {
            due("ways(" + n + ")", y.ways(n), orFewer[n]);
        }
        due("ways(4) of none", stuck().ways(4), 0);
    }

    private static void farAtEdges() {
        says("Promise 19: The greatest MINUTE behind a ROW of n (0 to 4) or fewer. BAD.");
        refuses("far(#)", BAD, NotYetSaid::far, -1, 5, LEAST, MOST);
        for (int n = 0; n <= 4; n++) {
            due("far(" + n + ")", one(99, 10, 0, 9).far(n), 10 * n);
            due("far(" + n + "), LEFT 2", one(99, 10, 0, 2).far(n), 10 * Math.min(n, 2));
            due("far(" + n + "), BELIEF for 3", one(99, 10, 33, 9).far(n), 10 * Math.min(n, 3));
            due("far(" + n + "), not beyond THE END", one(25, 10, 0, 9).far(n), Math.min(10 * n, 25));
            due("far(" + n + "), minute by minute", one(3, 1, 0, 9).far(n), Math.min(n, 3));
            due("far(" + n + ") of none", stuck().far(n), 10);
            due("far(" + n + "), over", over().far(n), 10);
            due("far(" + n + ") of a new one", new NotYetSaid().far(n), 0);
        }
        NotYetSaid x = road(99, 0);
        x.answer(2, 30, 100, 1);
        x.answer(2, 9, 0, 9);
        due("far(1)", x.far(1), 30);
        due("far(2)", x.far(2), 39);
        x.change(1, 2, 1);
        due("far(3): what costs all comes last, or not", x.far(3), 30);
        due("far(4)", x.far(4), 36);
    }

    private static void kindAtEdges() {
        says("Promise 20: The most BELIEF behind a ROW of n (0 to 4) or fewer that ARRIVES. BAD; NONE: none does.");
        refuses("kind(#)", BAD, NotYetSaid::kind, -1, 5, LEAST, MOST);
        refuses(() -> one(41, 10, 0, 9), "kind(#), NONE too", BAD, NotYetSaid::kind, -1, 5);
        for (int n = 0; n <= 4; n++) {
            due("kind(" + n + ") of four", one(40, 10, 25, 9).kind(n), n < 4 ? NONE : 0);
            due("kind(" + n + ") of one", one(10, 10, 100, 9).kind(n), n < 1 ? NONE : 0);
            due("kind(" + n + "), over", over().kind(n), 95);
        }
        refuses(() -> one(41, 10, 0, 9), "kind(#)", NONE, NotYetSaid::kind, 0, 4);
        NotYetSaid x = road(40, 0);
        x.answer(2, 40, 9, 1);
        x.answer(2, 10, 2, 9);
        due("kind(3)", x.kind(3), 91);
        due("kind(4)", x.kind(4), 92);
        x.change(1, 2, 3);
        due("kind(4): 4 times 3 are more than 9", x.kind(4), 91);
        x.belief(9);
        due("kind(4): all of it", x.kind(4), 0);
        x.belief(8);
        due("kind(4): too dear", x.kind(4), NONE);
    }

    private static void kindlyAtEdges() {
        says("Promise 21: The i-th (0 to 3) of the FIRST of these with that BELIEF. BAD");
        refuses("kindly(#, 0)", BAD, (x, v) -> x.kindly(v, 0), -1, 5, LEAST, MOST);
        refuses("kindly(4, #)", BAD, (x, v) -> x.kindly(4, v), -1, 4, LEAST, MOST);
        refuses(() -> one(41, 10, 0, 9), "kindly(4, #), NONE too", BAD, (x, v) -> x.kindly(4, v), -1, 4);
        refuses(() -> one(41, 10, 0, 9), "kindly(#, 0), NONE too", BAD, (x, v) -> x.kindly(v, 0), -1, 5);
        says("Promise 21: NONE: there is none, or it has not so many.");
        for (int n = 0; n <= 4; n++) {
            for (int i = 0; i <= 3; i++) {
                due("kindly(" + n + ", " + i + ") of four", one(40, 10, 25, 9).kindly(n, i), n < 4 ? NONE : 0);
                due("kindly(" + n + ", " + i + ") of two", one(20, 10, 50, 9).kindly(n, i), n < 2 || i >= 2 ? NONE : 0);
                due("kindly(" + n + ", " + i + "), over", over().kindly(n, i), NONE);
            }
        }
        refuses(() -> one(41, 10, 0, 9), "kindly(4, #) of none", NONE, (x, v) -> x.kindly(4, v), 0, 3);
        says("Promise 21: .. of the FIRST of these with that BELIEF");
        NotYetSaid x = road(20, 0);
        x.answer(2, 20, 10, 1);
        x.answer(2, 10, 5, 2);
        x.answer(2, 20, 10, 1);
        due("kindly(1, 0)", x.kindly(1, 0), 0);
        due("kindly(2, 0)", x.kindly(2, 0), 0);
        x.change(0, 2, 11);
        due("kindly(1, 0)", x.kindly(1, 0), 2);
        due("kindly(2, 0)", x.kindly(2, 0), 1);
        due("kindly(2, 1)", x.kindly(2, 1), 1);
        x.change(1, 2, 6);
        due("kindly(2, 0)", x.kindly(2, 0), 2);
        due("kindly(2, 1)", x.kindly(2, 1), NONE);
    }

    private static void needsAtEdges() {
        says("Promise 22: ANSWERS without which (LEFT as TOLD) no ROW of 4 or fewer ARRIVES, as a set; 0, if none does now.");
        due("needs() of four", one(40, 10, 25, 9).needs(), 1);
        due("needs() where five were needed", one(41, 10, 0, 9).needs(), 0);
        due("needs(), over", over().needs(), 0);
        due("needs() of none", stuck().needs(), 0);
        NotYetSaid two = road(10, 0);
        two.answer(2, 10, 100, 1);
        due("one is needed", two.needs(), 1);
        two.answer(2, 10, 100, 1);
        due("either of two that cost all", two.needs(), 0);
        two.change(0, 2, 99);
        two.belief(99);
        due("the other is too dear", two.needs(), 1);
        NotYetSaid x = road(40, 0);
        x.answer(2, 10, 0, 9);
        x.answer(2, 20, 0, 9);
        due("needs(): 1 1, or four times 0", x.needs(), 0);
        x.drives(0, 41, 0);
        due("needs(): 0 alone would be told five times", x.needs(), 2);
        x.drives(0, 81, 0);
        due("needs(): none is enough", x.needs(), 0);
        NotYetSaid told = one(30, 10, 0, 3);
        told.answer(2, 1, 0, 1);
        told.say(0);
        due("needs() behind one that was told", told.needs(), 1);
        still(() -> one(40, 10, 25, 9), "needs()", 1, NotYetSaid::needs);
    }

    private static void moreAtEdges() {
        says("Promise 23: The ANSWER by which, were LEFT 1 more, kind(4) would be most (more than now; NONE is less than any)");
        due("more(): a fourth one", one(40, 10, 0, 3).more(), 0);
        due("more(): a fifth one is none of 4", one(50, 10, 0, 4).more(), NONE);
        due("more(): the BELIEF is 0 then", one(40, 10, 25, 3).more(), 0);
        due("more(): it is too dear then", one(40, 10, 26, 3).more(), NONE);
        due("more(): as kind as now is not more", one(40, 10, 0, 4).more(), NONE);
        due("more(), over", over().more(), NONE);
        due("more() of no ANSWERS", road(9, 0).more(), NONE);
        still(() -> one(40, 10, 0, 3), "more()", 0, NotYetSaid::more);
        still(() -> one(50, 10, 0, 4), "more()", NONE, NotYetSaid::more);
        NotYetSaid x = road(20, 0);
        x.answer(2, 20, 10, 1);
        x.answer(2, 20, 10, 0);
        due("more(): just as kind", x.more(), NONE);
        x.change(1, 2, 9);
        due("more(): 1 kinder", x.more(), 1);
        says("Promise 23: of several the least");
        x.answer(2, 20, 9, 0);
        due("more(): two as kind", x.more(), 1);
        x.answer(2, 20, 8, 0);
        due("more(): a kinder one behind them", x.more(), 3);
        says("Promise 23: were LEFT 1 more; Terms: LEFT (0 to 9)");
        NotYetSaid nine = one(10, 1, 0, 9);
        for (int k = 0; k < 9; k++) {
            nine.say(0);
        }
        due("more(), LEFT 9", nine.more(), 0);
        due("answerOf(0, 3)", nine.answerOf(0, 3), 9);
        nine.change(0, 3, 8);
        due("more(), LEFT 8, told 9 times", nine.more(), NONE);
    }

    private static void beliefForAtEdges() {
        says("Promise 24: The least BELIEF (0 to 100) with which a ROW of n (1 to 3) or fewer ARRIVES. BAD; NONE.");
        refuses("beliefFor(#)", BAD, NotYetSaid::beliefFor, 0, 4, -1, LEAST, MOST);
        refuses(() -> one(41, 10, 0, 9), "beliefFor(#), NONE too", BAD, NotYetSaid::beliefFor, 0, 4);
        for (int n = 1; n <= 3; n++) {
            due("beliefFor(" + n + ") of three", one(30, 10, 33, 9).beliefFor(n), n < 3 ? NONE : 99);
            due("beliefFor(" + n + ") of three, too dear", one(30, 10, 34, 9).beliefFor(n), NONE);
            due("beliefFor(" + n + ") of two", one(20, 10, 50, 9).beliefFor(n), n < 2 ? NONE : 100);
            due("beliefFor(" + n + ") of one", one(10, 10, 100, 9).beliefFor(n), 100);
            due("beliefFor(" + n + ") of one for nothing", one(10, 10, 0, 9).beliefFor(n), 0);
            due("beliefFor(" + n + ") of four", one(31, 10, 0, 9).beliefFor(n), NONE);
            due("beliefFor(" + n + "), over", over().beliefFor(n), 0);
        }
        refuses(() -> one(31, 10, 0, 9), "beliefFor(#) of four", NONE, NotYetSaid::beliefFor, 1, 3);
        still(() -> one(30, 10, 33, 9), "beliefFor(3)", 99, x -> x.beliefFor(3));
        says("Promise 24: (THE RULES ask by it, too)");
        for (int belief : new int[] {0, 1, 99, 100}) {
            NotYetSaid x = one(20, 10, 0, 1);
            rules(x, "answer if belief=" + belief + " more 10;");
            due("beliefFor(1)", x.beliefFor(1), belief);
        }
        NotYetSaid x = one(20, 10, 3, 2);
        rules(x, "answer if belief=7 more 10;");
        due("beliefFor(1)", x.beliefFor(1), 7);
        due("beliefFor(2)", x.beliefFor(2), 6);
    }

    // ---- the game

    /** 0 arrives; behind 1, or 2, nothing is believed any more. */
    private static NotYetSaid toWin() {
        NotYetSaid x = road(30, 0);
        x.answer(2, 30, 1, 1);
        x.answer(2, 10, 100, 1);
        x.answer(2, 10, 100, 1);
        return x;
    }

    /** 0 may be told twice, and 1 isn't believed any more then; 1 arrives. */
    private static NotYetSaid notToLose() {
        NotYetSaid x = road(30, 0);
        x.answer(2, 10, 10, 2);
        x.answer(2, 30, 81, 1);
        return x;
    }

    private static void gameAtEdges() {
        says("Promise 25: VALUE of a GAME of n (1 to 4). BAD.");
        refuses("game(#)", BAD, NotYetSaid::game, 0, 5, -1, LEAST, MOST);
        says("Terms: who can't, when it isn't OVER, has lost; when it is OVER, or n were told, nobody has");
        // by LEFT, then by n: who can't any more
        int[][] due = {{1, 1, 1, 1}, {2, 0, 0, 0}, {2, 2, 1, 1}, {2, 2, 2, 0}, {2, 2, 2, 2}};
        for (int left = 0; left <= 4; left++) {
            for (int n = 1; n <= 4; n++) {
                due("game(" + n + "), LEFT " + left, one(99, 10, 0, left).game(n), due[left][n - 1]);
                due("game(" + n + "), BELIEF for " + left, one(99, 10, 100 / (left + 1) + 1, 9).game(n), due[left][n - 1]);
            }
        }
        for (int n = 1; n <= 4; n++) {
            due("game(" + n + "), over by the first", one(10, 10, 0, 1).game(n), 2);
            due("game(" + n + "), a minute more", one(11, 10, 0, 1).game(n), n == 1 ? 2 : 0);
            due("game(" + n + "), a minute is left behind a minute", one(2, 1, 0, 1).game(n), n == 1 ? 2 : 0);
            due("game(" + n + "), over by the second", one(20, 10, 0, 2).game(n), 2);
            due("game(" + n + "), a minute more", one(21, 10, 0, 2).game(n), n <= 2 ? 2 : 1);
            due("game(" + n + "), over", over().game(n), 2);
            due("game(" + n + "), a new one", new NotYetSaid().game(n), 2);
            due("game(" + n + "), none can be told", stuck().game(n), 1);
        }
        says("Terms: if both play as well as they can (to win rather than that nobody does, and that rather than to lose)");
        due("game(2): 0 arrives, by 1 the other one can't", toWin().game(2), 0);
        due("game(1): one was told", toWin().game(1), 2);
        NotYetSaid cheap = toWin();
        cheap.change(1, 2, 99);
        cheap.change(2, 2, 100);
        due("game(2): by 1 the other one arrives, by 2 it can't", cheap.game(2), 0);
        cheap.change(2, 2, 99);
        due("game(2): by any the other one arrives", cheap.game(2), 2);
        due("game(3): by 0 the other one tells the last that is believed, 1 arrives", notToLose().game(3), 2);
        due("game(2): two were told", notToLose().game(2), 2);
        NotYetSaid lost = notToLose();
        lost.change(1, 3, 0);
        due("game(3): there is nothing but to lose", lost.game(3), 1);
        NotYetSaid believed = notToLose();
        believed.change(1, 2, 80);
        due("game(3): 1 can be told behind both", believed.game(3), 2);
        still(() -> one(99, 10, 0, 3), "game(4)", 0, y -> y.game(4));
    }

    private static void playAtEdges() {
        says("Promise 26: The least ANSWER by which who begins comes to it. BAD; NONE: none CAN BE TOLD.");
        refuses("play(#)", BAD, NotYetSaid::play, 0, 5, -1, LEAST, MOST);
        refuses(EdgeRowsTests::stuck, "play(#), NONE too", BAD, NotYetSaid::play, 0, 5);
        refuses(EdgeRowsTests::stuck, "play(#), none can be told", NONE, NotYetSaid::play, 1, 4);
        refuses(EdgeRowsTests::over, "play(#), over", NONE, NotYetSaid::play, 1, 4);
        refuses(NotYetSaid::new, "play(#), a new one", NONE, NotYetSaid::play, 1, 4);
        due("nobody, by any: the least", toWin().play(1), 0);
        due("to win: the least of two", toWin().play(2), 1);
        NotYetSaid cheap = toWin();
        cheap.change(1, 2, 99);
        due("to win: the other one", cheap.play(2), 2);
        cheap.change(2, 2, 99);
        due("nobody, by any: the least", cheap.play(2), 0);
        due("nobody rather than to lose", notToLose().play(3), 1);
        due("nobody, by any: the least", notToLose().play(2), 0);
        due("a minute of one", one(1, 1, 0, 1).play(1), 0);
        due("a minute of two", one(2, 1, 0, 1).play(4), 0);
        NotYetSaid lost = one(30, 10, 0, 1);
        lost.answer(2, 10, 0, 1);
        due("to lose, by the least", lost.play(3), 0);
        still(() -> one(99, 10, 0, 3), "play(4)", 0, y -> y.play(4));
    }

    // ---- a stranger

    private static NotYetSaid heard(int behind, int held) {
        NotYetSaid x = trip();
        x.report(100, 100 + behind, held);
        return x;
    }

    private static void reportsWithin() {
        says("Terms: A REPORT (6 at most); Promise 27: its number. FULL.");
        NotYetSaid x = new NotYetSaid();
        for (int r = 0; r < 6; r++) {
            due("the next", x.report(r, 20 + r, 1), r);
            due("many(3)", x.many(3), r + 1);
        }
        still(Checks::full, "the seventh", FULL, y -> y.report(0, 0, 1));
        says("Terms: was told at a minute (0 to 999), and at another one (not before that; 999 at most)");
        due("report(0, 0, 1)", trip().report(0, 0, 1), 0);
        due("report(0, 999, 0)", trip().report(0, 999, 0), 0);
        due("report(999, 999, 1)", trip().report(999, 999, 1), 0);
        due("report(500, 500, 1)", trip().report(500, 500, 1), 0);
        refuses("report(#, 999, 1)", BAD, (y, v) -> y.report(v, 999, 1), -1, 1000, LEAST, MOST);
        refuses("report(500, #, 1)", BAD, (y, v) -> y.report(500, v, 1), 499, 1000, -1, LEAST, MOST);
        refuses("report(1000, #, 1)", BAD, (y, v) -> y.report(1000, v, 1), 1000, 1001);
        says("Terms: it HELD yet, or not (1, 0)");
        due("report(500, 501, 0)", trip().report(500, 501, 0), 0);
        refuses("report(500, 501, #)", BAD, (y, v) -> y.report(500, 501, v), -1, 2, LEAST, MOST);
        refuses(Checks::full, "report(500, #, 1), FULL too", BAD, (y, v) -> y.report(500, v, 1), 499, 1000);
        refuses(Checks::full, "report(500, 501, #), FULL too", BAD, (y, v) -> y.report(500, 501, v), -1, 2);
        says("Promise 28: There are no REPORTS: how many there were.");
        still(NotYetSaid::new, "forget() of none", 0, NotYetSaid::forget);
        due("forget() of six", x.forget(), 6);
        due("many(3)", x.many(3), 0);
        due("span(0)", x.span(0), 60);
        due("the next is the first", x.report(0, 0, 0), 0);
        due("span(0)", x.span(0), 0);
    }

    private static void span(NotYetSaid x, int many, int least, int greatest) {
        due("span(0)", x.span(0), many);
        due("span(1)", x.span(1), least);
        due("span(2)", x.span(2), greatest);
    }

    private static void holdsThatFit() {
        says("Terms: it held from its minute on, for as many minutes as it holds. HOLDS that FIT: those of 1 to 60");
        span(new NotYetSaid(), 60, 1, 60);
        span(heard(0, 1), 60, 1, 60);
        span(heard(0, 0), 0, NONE, NONE);
        span(heard(1, 1), 59, 2, 60);
        span(heard(1, 0), 1, 1, 1);
        span(heard(59, 1), 1, 60, 60);
        span(heard(59, 0), 59, 1, 59);
        span(heard(60, 1), 0, NONE, NONE);
        span(heard(60, 0), 60, 1, 60);
        span(heard(61, 1), 0, NONE, NONE);
        span(heard(61, 0), 60, 1, 60);
        span(heard(899, 0), 60, 1, 60);
        says("Terms: .. for which each REPORT is so");
        NotYetSaid x = heard(10, 1);
        x.report(0, 12, 0);
        span(x, 2, 11, 12);
        x.report(0, 11, 0);
        span(x, 1, 11, 11);
        x.report(0, 11, 1);
        span(x, 0, NONE, NONE);
        says("Promise 29: HOLDS that FIT: what = 0 how many, 1 the least, 2 the greatest. BAD; NONE (of 1, 2): there are none.");
        refuses("span(#)", BAD, NotYetSaid::span, -1, 3, LEAST, MOST);
        refuses(() -> heard(0, 0), "span(#), NONE too", BAD, NotYetSaid::span, -1, 3);
        refuses(() -> heard(0, 0), "span(#)", NONE, NotYetSaid::span, 1, 2);
    }

    private static void liars() {
        says("Terms: LIAR: if none FITS, the least REPORT but for which some would. Promise 30: NONE: some FIT; or there is no such");
        still(NotYetSaid::new, "liar() without REPORTS", NONE, NotYetSaid::liar);
        still(() -> heard(59, 1), "liar(), one fits", NONE, NotYetSaid::liar);
        still(() -> heard(60, 1), "liar(), a REPORT alone", 0, NotYetSaid::liar);
        NotYetSaid x = new NotYetSaid();
        x.report(0, 10, 0);
        x.report(0, 10, 1);
        due("of two the least", x.liar(), 0);
        x.report(0, 11, 1);
        due("the one against two", x.liar(), 0);
        NotYetSaid y = new NotYetSaid();
        y.report(0, 11, 1);
        y.report(0, 12, 1);
        y.report(0, 10, 0);
        due("the last one", y.liar(), 2);
        y.report(0, 9, 0);
        due("two against two", y.liar(), NONE);
        NotYetSaid six = new NotYetSaid();
        for (int r = 0; r < 5; r++) {
            six.report(r, 30 + r, 1);
        }
        due("five fit", six.liar(), NONE);
        six.report(0, 30, 0);
        due("the sixth", six.liar(), 5);
        NotYetSaid bounds = new NotYetSaid();
        bounds.report(0, 59, 1);
        bounds.report(0, 60, 1);
        due("but for the second 60 fits", bounds.liar(), 1);
        bounds.forget();
        bounds.report(0, 1, 0);
        bounds.report(0, 0, 0);
        due("but for the second 1 fits", bounds.liar(), 1);
    }

    // ---- lots

    private static int next(int z) {
        return z * 1103515245 + 12345;
    }

    private static void seeds() {
        says("Promise 31: z becomes v: what it was. (Terms: z, an int; 1 at first)");
        NotYetSaid x = new NotYetSaid();
        int was = 1;
        for (int v : new int[] {0, -1, LEAST, MOST, 1}) {
            due("seed(" + v + ")", x.seed(v), was);
            was = v;
        }
        still(Checks::everything, "seed(9), and back", 9, y -> {
            due("seed(9)", y.seed(9), -5);
            return y.seed(-5);
        });
    }

    private static void drawn() {
        says("Terms: DRAWN: z becomes z * 1103515245 + 12345: .. number (z >>> 16) modulo how many is told");
        for (int many = 1; many <= 9; many++) {
            for (int z : new int[] {1, 0, -1, LEAST, MOST, 77777777, -77777777}) {
                NotYetSaid x = road(99, 0);
                for (int a = 0; a < many; a++) {
                    x.answer(2, 7, 1, 1);
                }
                x.seed(z);
                int due = (int) ((next(z) & 0xffffffffL) / 65536 % many);
                due("draw() of " + many + ", z " + z, x.draw(), due);
                due("answerOf(" + due + ", 4)", x.answerOf(due, 4), 1);
                state(x, 7, 99);
                due("z", x.seed(0), next(z));
            }
        }
        says("Terms: DRAWN: .. of ANSWERS that CAN BE TOLD, by numbers (from 0)");
        NotYetSaid x = road(99, 0);
        for (int a = 0; a < 9; a++) {
            x.answer(2, 7, 1, a == 2 || a == 8 ? 1 : 0);
        }
        int z = next(1);
        int first = (z >>> 16) % 2 == 0 ? 2 : 8;
        due("draw() of 2 and 8", x.draw(), first);
        due("draw() of the other", x.draw(), 10 - first);
        due("z", x.seed(1), next(z));
        says("Promise 32: NONE: none CAN BE TOLD (z stays, too).");
        still(EdgeRowsTests::over, "draw(), over", NONE, NotYetSaid::draw);
        still(EdgeRowsTests::stuck, "draw(), none is left", NONE, NotYetSaid::draw);
        still(() -> {
            NotYetSaid y = one(99, 10, 5, 9);
            y.belief(4);
            return y;
        }, "draw(), too dear", NONE, NotYetSaid::draw);
        still(NotYetSaid::new, "draw() of a new one", NONE, NotYetSaid::draw);
    }

    private static NotYetSaid minuteByMinute(int minutes, int answers) {
        NotYetSaid x = road(minutes, 0);
        for (int a = 0; a < answers; a++) {
            x.answer(2, 1, 0, 9);
        }
        return x;
    }

    private static void runs() {
        says("Promise 33: Behind how many of n (1 to 60) RUNS .. it is OVER. BAD.");
        refuses("often(#)", BAD, NotYetSaid::often, 0, 61, -1, LEAST, MOST);
        due("often(1)", minuteByMinute(1, 1).often(1), 1);
        due("often(60)", minuteByMinute(1, 1).often(60), 60);
        due("often(60), over", over().often(60), 60);
        due("often(60) of a new one", new NotYetSaid().often(60), 60);
        due("often(60), none can be told", stuck().often(60), 0);
        says("Terms: A RUN: DRAWN again and again, 30 times at most, till none CAN BE TOLD.");
        due("often(60), 30 minutes", minuteByMinute(30, 4).often(60), 60);
        due("often(60), 31 minutes", minuteByMinute(31, 4).often(60), 0);
        due("often(60), 9 of 9 minutes", minuteByMinute(9, 1).often(60), 60);
        due("often(60), 9 of 10 minutes", minuteByMinute(10, 1).often(60), 0);
        says("Promise 33: each from how it is now (z goes on from one to the next)");
        for (int n = 1; n <= 60; n++) {
            NotYetSaid x = road(10, 0);
            x.answer(2, 10, 0, 1);
            x.answer(2, 5, 100, 1);
            x.change(0, 2, 1);
            x.seed(-n);
            int z = -n;
            int due = 0;
            for (int run = 0; run < n; run++) {
                z = next(z);
                due += (z >>> 16) % 2 == 0 ? 1 : 0;
            }
            due("often(" + n + ")", x.often(n), due);
        }
        says("Promise 33: (all is as it was in the end, z, too)");
        still(() -> minuteByMinute(31, 4), "often(60)", 0, x -> x.often(60));
        still(() -> minuteByMinute(30, 4), "often(1)", 1, x -> x.often(1));
    }

    // ---- ROWS

    private static NotYetSaid proved(int rows) {
        NotYetSaid x = one(99, 10, 7, 9);
        x.drives(0, Math.max(10 * rows, 1), 0);
        if (rows == 0) {
            x.say(0);
        }
        x.prove();
        return x;
    }

    private static void proofs() {
        says("Promise 34: ROWS of the FIRST shortest one that ARRIVES (4 ANSWERS at most): how many.");
        for (int rows = 1; rows <= 4; rows++) {
            NotYetSaid x = one(10 * rows, 10, 25, 9);
            due("prove()", x.prove(), rows);
            due("many(4)", x.many(4), rows);
            for (int k = 0; k < rows; k++) {
                due("row(" + k + ", 0)", x.row(k, 0), 0);
                due("row(" + k + ", 1)", x.row(k, 1), 10 * (k + 1));
                due("row(" + k + ", 2)", x.row(k, 2), 75 - 25 * k);
            }
            state(x, 0, 100);
        }
        NotYetSaid unlike = road(25, 0);
        unlike.answer(2, 10, 1, 1);
        unlike.answer(2, 8, 20, 1);
        unlike.answer(2, 7, 3, 9);
        due("prove() of unlike ones", unlike.prove(), 3);
        int[][] each = {{0, 10, 99}, {1, 18, 79}, {2, 25, 76}};
        for (int k = 0; k < 3; k++) {
            for (int what = 0; what <= 2; what++) {
                due("row(" + k + ", " + what + ")", unlike.row(k, what), each[k][what]);
            }
        }
        NotYetSaid dear = one(1, 60, 100, 1);
        due("prove() by all that is believed", dear.prove(), 1);
        int[] all = {0, 1, 0};
        for (int what = 0; what <= 2; what++) {
            due("row(0, " + what + ")", dear.row(0, what), all[what]);
        }
        NotYetSaid none = proved(4);
        none.belief(0);
        none.change(0, 2, 0);
        none.change(0, 1, 60);
        none.say(0);
        due("prove(), over", none.prove(), 0);
        due("many(4)", none.many(4), 0);
        due("row(0, 0)", none.row(0, 0), NO_ROW);
        says("Promise 34: NONE: there is none (ROWS stay).");
        still(() -> {
            NotYetSaid x = proved(4);
            x.drives(0, 41, 0);
            return x;
        }, "prove() where five were needed", NONE, NotYetSaid::prove);
        still(EdgeRowsTests::stuck, "prove() where none can be told", NONE, NotYetSaid::prove);
    }

    private static void rowsWithin() {
        says("Promise 35: Of ROW k: what = 0 ANSWER, 1 MINUTE, 2 BELIEF. -9: there is none such, another what.");
        says("Promise 36: It becomes v: what it was. -9 likewise.");
        for (int rows = 0; rows <= 4; rows++) {
            int many = rows;
            refuses(() -> proved(many), "row(#, 0) of " + rows, NO_ROW, (x, v) -> x.row(v, 0), -1, rows, 4, LEAST, MOST);
            refuses(() -> proved(many), "alterRow(#, 0, 1) of " + rows, NO_ROW, (x, v) -> x.alterRow(v, 0, 1), -1, rows, 4, LEAST,
                    MOST);
            refuses(() -> proved(many), "row(0, #) of " + rows, NO_ROW, (x, v) -> x.row(0, v), -1, 3, LEAST, MOST);
            refuses(() -> proved(many), "alterRow(0, #, 1) of " + rows, NO_ROW, (x, v) -> x.alterRow(0, v, 1), -1, 3, LEAST, MOST);
        }
        still(Checks::everything, "alterRow(0, 2, 7), and back", 7, x -> {
            int was = x.alterRow(0, 2, 7);
            return x.alterRow(0, 2, was);
        });
        still(Checks::everything, "row(0, 0)", 0, x -> x.row(0, 0));
        refuses(NotYetSaid::new, "row(#, 0) of a new one", NO_ROW, (x, v) -> x.row(v, 0), -1, 0, 1);
        for (int k = 0; k <= 3; k++) {
            for (int what = 0; what <= 2; what++) {
                NotYetSaid x = proved(4);
                int was = what == 0 ? 0 : what == 1 ? 10 * (k + 1) : 93 - 7 * k;
                for (int v : new int[] {LEAST, MOST, -9, 0}) {
                    due("alterRow(" + k + ", " + what + ", " + v + ")", x.alterRow(k, what, v), was);
                    due("row(" + k + ", " + what + ")", x.row(k, what), v);
                    was = v;
                }
                for (int other = 0; other <= 3; other++) {
                    due("the ANSWER of ROW " + other, x.row(other, 0), 0);
                    due("the MINUTE of ROW " + other, x.row(other, 1), other == k && what == 1 ? 0 : 10 * (other + 1));
                    due("the BELIEF of ROW " + other, x.row(other, 2), other == k && what == 2 ? 0 : 93 - 7 * other);
                }
            }
        }
    }

    private static void judged() {
        says("Promise 37: THE READER takes ROWS as such: 0 all is right; else the first ROW that isn't, and 1 more.");
        for (int rows = 0; rows <= 4; rows++) {
            int many = rows;
            still(() -> proved(many), "judge() of " + rows, 0, NotYetSaid::judge);
        }
        still(NotYetSaid::new, "judge() without ROWS", 0, NotYetSaid::judge);
        for (int k = 0; k <= 3; k++) {
            int row = k;
            still(() -> altered(row, 0, 1), "judge(), no such ANSWER", k + 1, NotYetSaid::judge);
            still(() -> altered(row, 0, -1), "judge(), no such ANSWER", k + 1, NotYetSaid::judge);
            still(() -> altered(row, 0, LEAST), "judge(), no such ANSWER", k + 1, NotYetSaid::judge);
            still(() -> altered(row, 1, 10 * row + 9), "judge(), a minute less", k + 1, NotYetSaid::judge);
            still(() -> altered(row, 1, 10 * row + 11), "judge(), a minute more", k + 1, NotYetSaid::judge);
            still(() -> altered(row, 2, 92 - 7 * row), "judge(), BELIEF 1 less", k + 1, NotYetSaid::judge);
            still(() -> altered(row, 2, 94 - 7 * row), "judge(), BELIEF 1 more", k + 1, NotYetSaid::judge);
        }
        NotYetSaid two = altered(2, 1, 0);
        two.alterRow(1, 2, 0);
        due("judge(), the first of two", two.judge(), 2);
        says("Terms: right is one that tells an ANSWER that CAN BE TOLD behind those ahead, MINUTE and BELIEF as they are then");
        for (int left = 0; left <= 4; left++) {
            NotYetSaid x = proved(4);
            x.change(0, 3, left);
            due("judge(), LEFT " + left, x.judge(), left == 4 ? 0 : left + 1);
        }
        NotYetSaid dear = one(40, 10, 25, 9);
        dear.prove();
        due("judge(), BELIEF is 0 in the end", dear.judge(), 0);
        dear.belief(99);
        due("judge(), BELIEF isn't as then", dear.judge(), 1);
        says("Terms: from how it is now");
        NotYetSaid said = proved(4);
        said.say(0);
        due("judge() behind one that was told", said.judge(), 1);
        said.anew();
        due("judge() anew", said.judge(), 0);
        says("Terms: behind the last one it is OVER (else that ROW isn't right)");
        for (int rows = 1; rows <= 4; rows++) {
            NotYetSaid x = proved(rows);
            x.leg(1, 0);
            due("judge() of " + rows + ", a minute more", x.judge(), rows);
        }
        NotYetSaid shorter = proved(4);
        shorter.drives(0, 30, 0);
        due("judge(), over ahead of the last one", shorter.judge(), 4);
        shorter.drives(0, 31, 0);
        due("judge(), over behind the last one, a MINUTE that isn't so", shorter.judge(), 4);
        shorter.alterRow(3, 1, 31);
        due("judge(), as ROWS may be right that weren't proved", shorter.judge(), 0);
    }

    private static NotYetSaid altered(int k, int what, int v) {
        NotYetSaid x = proved(4);
        x.alterRow(k, what, v);
        return x;
    }

    public static void main(String[] args) {
        whatIsAskedChangesNothing();
        oneBehindTheOther();
        theFirstOfRows();
        fewestAtEdges();
        ithAtEdges();
        waysAtEdges();
        farAtEdges();
        kindAtEdges();
        kindlyAtEdges();
        needsAtEdges();
        moreAtEdges();
        beliefForAtEdges();
        gameAtEdges();
        playAtEdges();
        reportsWithin();
        holdsThatFit();
        liars();
        seeds();
        drawn();
        runs();
        proofs();
        rowsWithin();
        judged();
        end();
    }
}
