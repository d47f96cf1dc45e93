/**
 * ANSWERS and the road (part 1, promises 1 to 11, 14 and 15): each sentence that names a bound, an edge or a refusal, with
 * the last value on either side of it; a refused call changes nothing.
 */
public final class EdgeRideTests extends Checks {

    // ---- refusals

    private static void theFirstNamedIsTheAnswer() {
        says("Terms: of several the first named: BAD (-1) .. FULL (-2); NONE (-3); STATE (-4)");
        due("BAD", NotYetSaid.BAD, -1);
        due("FULL", NotYetSaid.FULL, -2);
        due("NONE", NotYetSaid.NONE, -3);
        due("STATE", NotYetSaid.STATE, -4);
        refuses(Checks::full, "answer(#, 10, 0, 1), FULL too", BAD, (x, v) -> x.answer(v, 10, 0, 1), 0, 6);
        refuses(Checks::full, "answer(1, #, 0, 1), FULL too", BAD, (x, v) -> x.answer(1, v, 0, 1), 0, 61);
        refuses(Checks::full, "answer(1, 10, #, 1), FULL too", BAD, (x, v) -> x.answer(1, 10, v, 1), -1, 101);
        refuses(Checks::full, "answer(1, 10, 0, #), FULL too", BAD, (x, v) -> x.answer(1, 10, 0, v), -1, 10);
        refuses(Checks::full, "leg(#, 0), FULL too", BAD, (x, v) -> x.leg(v, 0), 0, 100);
        refuses(Checks::full, "leg(5, #), FULL too", BAD, (x, v) -> x.leg(5, v), -1, 3);
        refuses("drives(0, #, 0), STATE too", BAD, (x, v) -> x.drives(0, v, 0), 0, 100);
        refuses("drives(0, 5, #), STATE too", BAD, (x, v) -> x.drives(0, 5, v), -1, 3);
        refuses(() -> behind(30), "say(#), over too", BAD, NotYetSaid::say, -1, 1);
    }

    private static void setsAreToldByBits() {
        says("Terms: Sets are told by bits.");
        NotYetSaid x = road(30, 0);
        for (int a = 0; a < 9; a++) {
            x.answer(2, 30, 0, 0);
        }
        due("can(), none", x.can(), 0);
        for (int a = 0; a < 9; a++) {
            x.change(a, 3, 1);
            due("can(), ANSWER " + a + " alone", x.can(), 1 << a);
            due("needs(), ANSWER " + a + " alone", x.needs(), 1 << a);
            x.change(a, 3, 0);
        }
        x.change(0, 3, 1);
        x.change(8, 3, 1);
        due("can(), the first and the last", x.can(), 257);
    }

    private static void quotientsAreCut() {
        says("Terms: Quotients are cut towards 0.");
        NotYetSaid x = road(99, 1);
        x.answer(1, 5, 0, 9);
        x.answer(4, 5, 0, 9);
        x.answer(5, 5, 0, 9);
        x.say(0);
        due("soon, 5 by 2", x.answerOf(0, 5), 2);
        due("biscuit, half of 5", x.answerOf(1, 5), 2);
        due("stop, twice half of 5", x.answerOf(2, 5), 4);
        x.say(0);
        due("soon, 5 by 3", x.answerOf(0, 5), 1);
    }

    // ---- ANSWERS

    private static void atFirst() {
        says("Promise 1: No ANSWERS, LEGS, RULES, REPORTS; nothing is kept.");
        NotYetSaid x = new NotYetSaid();
        for (int what = 0; what <= 6; what++) {
            due("many(" + what + ")", x.many(what), 0);
        }
        still(NotYetSaid::new, "again()", NONE, NotYetSaid::again);
        says("Terms: MINUTE (0 at first), BELIEF (0 to 100; 100 at first)");
        state(x, 0, 100);
        says("Terms: z (an int; 1 at first)");
        due("seed(0)", x.seed(0), 1);
        says("Terms: THE END: MINUTES of all LEGS together; its number is how many LEGS there are, MOOD is 0");
        due("state(4)", x.state(4), 0);
        due("state(2)", x.state(2), 0);
        due("state(3)", x.state(3), 0);
        says("Terms: It is OVER when MINUTE is THE END or more.");
        due("fewest()", x.fewest(), 0);
        x.answer(1, 1, 0, 9);
        due("can() without LEGS", x.can(), 0);
    }

    private static void nineAnswers() {
        says("Terms: ANSWERS, 9 at most, numbered as they come; Promise 2: its number. FULL");
        NotYetSaid x = road(9, 0);
        for (int a = 0; a < 9; a++) {
            due("the next", x.answer(1 + a % 5, 10 + a, a, a), a);
            due("many(0)", x.many(0), a + 1);
        }
        for (int a = 0; a < 9; a++) {
            due("answerOf(" + a + ", 0)", x.answerOf(a, 0), 1 + a % 5);
            due("answerOf(" + a + ", 1)", x.answerOf(a, 1), 10 + a);
            due("answerOf(" + a + ", 2)", x.answerOf(a, 2), a);
            due("answerOf(" + a + ", 3)", x.answerOf(a, 3), a);
            due("answerOf(" + a + ", 4)", x.answerOf(a, 4), 0);
        }
        still(Checks::full, "the tenth", FULL, y -> y.answer(1, 10, 0, 1));
    }

    private static void answersWithin() {
        says("Promise 2: An ANSWER of a KIND 1 to 5: its number. BAD");
        for (int kind = 1; kind <= 5; kind++) {
            NotYetSaid x = new NotYetSaid();
            due("answer(" + kind + ", 30, 50, 5)", x.answer(kind, 30, 50, 5), 0);
            due("answerOf(0, 0)", x.answerOf(0, 0), kind);
        }
        refuses("answer(#, 30, 50, 5)", BAD, (x, v) -> x.answer(v, 30, 50, 5), 0, 6, -1, LEAST, MOST);
        says("Terms: HOLDS (1 to 60 minutes)");
        due("answer(1, 1, 50, 5)", new NotYetSaid().answer(1, 1, 50, 5), 0);
        due("answer(1, 60, 50, 5)", new NotYetSaid().answer(1, 60, 50, 5), 0);
        refuses("answer(1, #, 50, 5)", BAD, (x, v) -> x.answer(1, v, 50, 5), 0, 61, -1, LEAST, MOST);
        says("Terms: COSTS (0 to 100)");
        due("answer(1, 30, 0, 5)", new NotYetSaid().answer(1, 30, 0, 5), 0);
        due("answer(1, 30, 100, 5)", new NotYetSaid().answer(1, 30, 100, 5), 0);
        refuses("answer(1, 30, #, 5)", BAD, (x, v) -> x.answer(1, 30, v, 5), -1, 101, LEAST, MOST);
        says("Terms: LEFT (0 to 9: how often it may be told in all)");
        due("answer(1, 30, 50, 0)", new NotYetSaid().answer(1, 30, 50, 0), 0);
        due("answer(1, 30, 50, 9)", new NotYetSaid().answer(1, 30, 50, 9), 0);
        refuses("answer(1, 30, 50, #)", BAD, (x, v) -> x.answer(1, 30, 50, v), -1, 10, LEAST, MOST);
    }

    private static void answerOfWithin() {
        says("Promise 3: Of an ANSWER: what = 0 KIND, .. 6 1 if it CAN BE TOLD, else 0. BAD.");
        refuses("answerOf(#, 0)", BAD, (x, v) -> x.answerOf(v, 0), -1, 5, 9, LEAST, MOST);
        refuses("answerOf(0, #)", BAD, (x, v) -> x.answerOf(0, v), -1, 7, LEAST, MOST);
        refuses(Checks::full, "answerOf(#, 6)", BAD, (x, v) -> x.answerOf(v, 6), -1, 9);
        still(Checks::full, "answerOf(8, 0)", 4, x -> x.answerOf(8, 0));
        still(NotYetSaid::new, "answerOf(0, 0) of none", BAD, x -> x.answerOf(0, 0));
        NotYetSaid x = one(20, 5, 10, 1);
        due("CAN BE TOLD", x.answerOf(0, 6), 1);
        x.say(0);
        due("told as often as it may be", x.answerOf(0, 6), 0);
    }

    private static void changeWithin() {
        says("Promise 4: HOLDS (what 1), COSTS (2), LEFT (3) of an ANSWER becomes v: what it was. BAD.");
        refuses("change(#, 1, 5)", BAD, (x, v) -> x.change(v, 1, 5), -1, 5, LEAST, MOST);
        refuses("change(0, #, 5)", BAD, (x, v) -> x.change(0, v, 5), 0, 4, -1, 5, 6, LEAST, MOST);
        refuses("change(0, 1, #)", BAD, (x, v) -> x.change(0, 1, v), 0, 61, -1, LEAST, MOST);
        refuses("change(0, 2, #)", BAD, (x, v) -> x.change(0, 2, v), -1, 101, LEAST, MOST);
        refuses("change(0, 3, #)", BAD, (x, v) -> x.change(0, 3, v), -1, 10, LEAST, MOST);
        int[][] bounds = {{}, {1, 60}, {0, 100}, {0, 9}};
        for (int what = 1; what <= 3; what++) {
            NotYetSaid x = new NotYetSaid();
            x.answer(3, 7, 7, 7);
            x.answer(3, 7, 7, 7);
            due("change(1, " + what + ", the least)", x.change(1, what, bounds[what][0]), 7);
            due("answerOf(1, " + what + ")", x.answerOf(1, what), bounds[what][0]);
            due("change(1, " + what + ", the greatest)", x.change(1, what, bounds[what][1]), bounds[what][0]);
            due("answerOf(1, " + what + ")", x.answerOf(1, what), bounds[what][1]);
            for (int other = 1; other <= 3; other++) {
                due("answerOf(1, " + other + ")", x.answerOf(1, other), other == what ? bounds[what][1] : 7);
                due("answerOf(0, " + other + ")", x.answerOf(0, other), 7);
            }
        }
    }

    private static void remakeWithin() {
        says("Promise 5: An ANSWER becomes one of another KIND (1 to 5): the KIND that it was. BAD.");
        refuses("remake(#, 1)", BAD, (x, v) -> x.remake(v, 1), -1, 5, LEAST, MOST);
        refuses("remake(0, #)", BAD, (x, v) -> x.remake(0, v), 0, 6, -1, LEAST, MOST);
        for (int kind = 1; kind <= 5; kind++) {
            for (int other = 1; other <= 5; other++) {
                NotYetSaid x = road(99, 0);
                x.answer(1, 2, 3, 4);
                x.answer(kind, 21, 10, 4);
                x.say(1);
                due("remake(1, " + other + ")", x.remake(1, other), kind);
                int[] now = {other, 21, 10, 4, 1};
                for (int what = 0; what <= 4; what++) {
                    due("answerOf(1, " + what + ")", x.answerOf(1, what), now[what]);
                }
                // soon 21 by 2; game 21; song 21 less 2; biscuit 21; stop twice 21
                due("answerOf(1, 5)", x.answerOf(1, 5), new int[] {10, 21, 19, 21, 42}[other - 1]);
                due("the other's KIND", x.answerOf(0, 0), 1);
            }
        }
    }

    // ---- HOLDS NOW

    /** What an ANSWER of that KIND that holds h holds now, told so often, on a plain, a bent and a jammed LEG. */
    private static void holds(int kind, int h, int told, int plain, int bends, int jam) {
        int[] now = {plain, bends, jam};
        for (int mood = 0; mood <= 2; mood++) {
            NotYetSaid x = road(99, mood);
            x.answer(kind, 1, 0, 9);
            for (int k = 0; k < told; k++) {
                x.say(0);
            }
            x.change(0, 1, h);
            due("KIND " + kind + " of " + h + " minutes, told " + told + " times, MOOD " + mood, x.answerOf(0, 5), now[mood]);
        }
    }

    private static void holdsNow() {
        says("Terms: soon: h by (1 and TOLD).");
        holds(1, 60, 0, 60, 60, 60);
        holds(1, 60, 1, 30, 30, 30);
        holds(1, 60, 9, 6, 6, 6);
        holds(1, 59, 9, 5, 5, 5);
        says("Terms: game: h, and 5 more by MOOD 2.");
        holds(2, 1, 0, 1, 1, 6);
        holds(2, 60, 3, 60, 60, 65);
        says("Terms: song: as game, less twice TOLD (0 at least).");
        holds(3, 60, 0, 60, 60, 65);
        holds(3, 60, 1, 58, 58, 63);
        holds(3, 60, 9, 42, 42, 47);
        holds(3, 5, 2, 1, 1, 6);
        says("Terms: biscuit: h, half of it by MOOD 1.");
        holds(4, 60, 3, 60, 30, 60);
        holds(4, 3, 0, 3, 1, 3);
        holds(4, 2, 0, 2, 1, 2);
        says("Terms: stop: twice as biscuit.");
        holds(5, 60, 3, 120, 60, 120);
        holds(5, 3, 0, 6, 2, 6);
        holds(5, 2, 0, 4, 2, 4);
        says("Terms: HOLDS NOW (1 at least in the end)");
        holds(1, 2, 1, 1, 1, 1);
        holds(1, 1, 1, 1, 1, 1);
        holds(1, 9, 9, 1, 1, 1);
        holds(3, 4, 2, 1, 1, 5);
        holds(3, 3, 2, 1, 1, 4);
        holds(3, 1, 3, 1, 1, 1);
        holds(3, 2, 3, 1, 1, 1);
        holds(4, 1, 0, 1, 1, 1);
        holds(5, 1, 0, 2, 1, 2);
    }

    /** What THE RULES leave of 7 minutes, seen by a game in a jam, where 0 is 5 in the end, by a stop twice. */
    private static void ruled(String rule, int game, int stop) {
        NotYetSaid x = road(99, 2);
        x.answer(2, 7, 0, 9);
        x.answer(5, 7, 0, 9);
        due("rules of '" + rule + "'", rules(x, rule), 1);
        due("the game by '" + rule + "'", x.answerOf(0, 5), game);
        due("the stop by '" + rule + "'", x.answerOf(1, 5), stop);
    }

    private static void rulesOnHolds() {
        says("Terms: by more N: N more");
        ruled("answer more 0;", 12, 14);
        ruled("answer more 1;", 13, 16);
        ruled("answer more 99;", 111, 212);
        says("Terms: by less N: N less (0 at least)");
        ruled("answer less 0;", 12, 14);
        ruled("answer less 6;", 6, 2);
        ruled("answer less 7;", 5, 1);
        ruled("answer less 8;", 5, 1);
        ruled("answer less 99;", 5, 1);
        says("Terms: by nil: 0");
        ruled("answer nil;", 5, 1);
        says("Terms: HOLDS NOW (1 at least in the end)");
        for (int kind = 1; kind <= 5; kind++) {
            NotYetSaid x = road(99, 0);
            x.answer(kind, 60, 0, 9);
            rules(x, "answer nil;");
            due("KIND " + kind + " by nil", x.answerOf(0, 5), 1);
            rules(x, "answer less 59;");
            due("KIND " + kind + " by less 59", x.answerOf(0, 5), kind == 5 ? 2 : 1);
            rules(x, "answer more 99;");
            due("KIND " + kind + " by more 99", x.answerOf(0, 5), kind == 5 ? 318 : 159);
        }
        NotYetSaid song = road(99, 2);
        song.answer(3, 1, 0, 9);
        song.say(0);
        rules(song, "answer nil;");
        due("a song by nil, in a jam, told once", song.answerOf(0, 5), 3);
    }

    private static void theFirstRuleOfItsKind() {
        says("Terms: the first of THE RULES whose KIND is its or above it, and whose condition holds");
        String[] kinds = {"answer", "soon", "game", "song", "biscuit", "stop"};
        boolean[][] above = {{true, true, true, true, true}, {true, false, false, false, false},
            {false, true, true, false, false}, {false, false, true, false, false}, {false, false, false, true, true},
            {false, false, false, false, true}};
        for (int rule = 0; rule < 6; rule++) {
            NotYetSaid x = road(99, 0);
            for (int kind = 1; kind <= 5; kind++) {
                x.answer(kind, 10, 0, 9);
            }
            rules(x, kinds[rule] + " more 20;");
            for (int a = 0; a < 5; a++) {
                int twice = a == 4 ? 2 : 1;
                due(kinds[rule] + "'s RULE on ANSWER " + a, x.answerOf(a, 5), twice * (above[rule][a] ? 30 : 10));
            }
        }
        NotYetSaid x = one(99, 10, 0, 9);
        rules(x, "game more 1;answer more 2;");
        due("both are so: the first", x.answerOf(0, 5), 11);
        rules(x, "answer more 2;game more 1;");
        due("the other way round: the first", x.answerOf(0, 5), 12);
        rules(x, "song more 1;biscuit more 2;soon more 3;");
        due("none is its", x.answerOf(0, 5), 10);
        rules(x, "game if 1=2 more 1;game if 1=2 more 2;answer if 1=1 more 3;game more 4;");
        due("the first whose condition holds", x.answerOf(0, 5), 13);
        rules(x, "game if 1=2 more 1;game more 4;");
        due("the first without a condition", x.answerOf(0, 5), 14);
        rules(x, "soon more 1;game if 1=1 more 2;game more 4;");
        due("the first of its KIND", x.answerOf(0, 5), 12);
        rules(x, "soon nil;soon nil;soon nil;soon nil;soon nil;soon nil;soon nil;game more 5;");
        due("the eighth", x.answerOf(0, 5), 15);
    }

    // ---- the road

    /** Three LEGS of 10 minutes, plain ones, bends, a jam, where so many minutes have passed. */
    private static NotYetSaid behind(int minutes) {
        NotYetSaid x = road(10, 0);
        x.leg(10, 1);
        x.leg(10, 2);
        x.answer(2, Math.max(minutes, 1), 0, 9);
        if (minutes > 0) {
            x.say(0);
        }
        return x;
    }

    private static void eightLegs() {
        says("Terms: LEGS, 8 at most, one behind the other, numbered as they come; Promise 6: its number. FULL");
        NotYetSaid x = new NotYetSaid();
        for (int k = 0; k < 8; k++) {
            due("the next", x.leg(99 - k, k % 3), k);
            due("many(2)", x.many(2), k + 1);
        }
        for (int k = 0; k < 8; k++) {
            due("legOf(" + k + ", 0)", x.legOf(k, 0), 99 - k);
            due("legOf(" + k + ", 1)", x.legOf(k, 1), k % 3);
        }
        still(Checks::full, "the ninth", FULL, y -> y.leg(5, 0));
        says("Terms: THE END: MINUTES of all LEGS together.");
        due("state(4)", x.state(4), 8 * 99 - 28);
    }

    private static void legsWithin() {
        says("Terms: MINUTES (1 to 99)");
        due("leg(1, 0)", new NotYetSaid().leg(1, 0), 0);
        due("leg(99, 0)", new NotYetSaid().leg(99, 0), 0);
        refuses("leg(#, 0)", BAD, (x, v) -> x.leg(v, 0), 0, 100, -1, LEAST, MOST);
        says("Terms: MOOD (0 plain, 1 bends, 2 jam)");
        due("leg(5, 0)", new NotYetSaid().leg(5, 0), 0);
        due("leg(5, 2)", new NotYetSaid().leg(5, 2), 0);
        refuses("leg(5, #)", BAD, (x, v) -> x.leg(5, v), -1, 3, LEAST, MOST);
        says("Promise 7: Of a LEG: what = 0 MINUTES, 1 MOOD. BAD.");
        refuses("legOf(#, 0)", BAD, (x, v) -> x.legOf(v, 0), -1, 4, 8, LEAST, MOST);
        refuses("legOf(0, #)", BAD, (x, v) -> x.legOf(0, v), -1, 2, LEAST, MOST);
        refuses(Checks::full, "legOf(#, 1)", BAD, (x, v) -> x.legOf(v, 1), -1, 8);
        still(NotYetSaid::new, "legOf(0, 0) of none", BAD, x -> x.legOf(0, 0));
        says("Promise 6: One more LEG at the end");
        NotYetSaid x = behind(30);
        due("can(), over", x.can(), 0);
        due("leg(1, 1)", x.leg(1, 1), 3);
        due("can(), a minute more", x.can(), 1);
        due("the LEG now", x.state(2), 3);
        due("its MOOD", x.state(3), 1);
    }

    private static void theLegNow() {
        says("Terms: The LEG now: the first one whose end (MINUTES of all up to it, together) is above MINUTE");
        int[][] legs = {{0, 0, 0}, {9, 0, 0}, {10, 1, 1}, {11, 1, 1}, {19, 1, 1}, {20, 2, 2}, {29, 2, 2}};
        for (int[] l : legs) {
            due("state(0)", behind(l[0]).state(0), l[0]);
            due("state(2) behind " + l[0], behind(l[0]).state(2), l[1]);
            due("state(3) behind " + l[0], behind(l[0]).state(3), l[2]);
        }
        says("Terms: when it is OVER, its number is how many LEGS there are, MOOD is 0");
        due("state(2) behind 30", behind(30).state(2), 3);
        due("state(3) behind 30", behind(30).state(3), 0);
        says("Terms: It is OVER when MINUTE is THE END or more.");
        due("can() behind 29", behind(29).can(), 1);
        due("fewest() behind 29", behind(29).fewest(), 1);
        due("can() behind 30", behind(30).can(), 0);
        due("fewest() behind 30", behind(30).fewest(), 0);
    }

    private static void drivesWithin() {
        says("Promise 8: A LEG becomes of other MINUTES, another MOOD: THE END then. BAD");
        refuses(() -> behind(0), "drives(#, 5, 0)", BAD, (x, v) -> x.drives(v, 5, 0), -1, 3, 8, LEAST, MOST);
        refuses(() -> behind(0), "drives(2, #, 0)", BAD, (x, v) -> x.drives(2, v, 0), 0, 100, -1, LEAST, MOST);
        refuses(() -> behind(0), "drives(2, 5, #)", BAD, (x, v) -> x.drives(2, 5, v), -1, 3, LEAST, MOST);
        NotYetSaid x = behind(0);
        due("drives(2, 1, 0)", x.drives(2, 1, 0), 21);
        due("legOf(2, 0)", x.legOf(2, 0), 1);
        due("legOf(2, 1)", x.legOf(2, 1), 0);
        due("drives(2, 99, 2)", x.drives(2, 99, 2), 119);
        due("legOf(2, 0)", x.legOf(2, 0), 99);
        due("legOf(2, 1)", x.legOf(2, 1), 2);
        due("state(4)", x.state(4), 119);
        says("Promise 8: STATE: its number is below that of the LEG now, or it is that one and MINUTE is above 0.");
        // the least LEG that may be changed, by MINUTE
        int[][] least = {{0, 0}, {1, 1}, {9, 1}, {10, 2}, {11, 2}, {19, 2}, {20, 3}, {29, 3}, {30, 3}};
        for (int[] l : least) {
            for (int k = 0; k < 3; k++) {
                int leg = k;
                if (k < l[1]) {
                    still(() -> behind(l[0]), "drives(" + k + ", 5, 1) behind " + l[0], STATE, y -> y.drives(leg, 5, 1));
                } else {
                    due("drives(" + k + ", 5, 1) behind " + l[0], behind(l[0]).drives(k, 5, 1), 25);
                }
            }
        }
    }

    private static void beliefWithin() {
        says("Promise 9: BELIEF becomes v: what it was. BAD. (Terms: BELIEF 0 to 100)");
        NotYetSaid x = trip();
        due("belief(0)", x.belief(0), 100);
        due("state(1)", x.state(1), 0);
        due("belief(100)", x.belief(100), 0);
        due("state(1)", x.state(1), 100);
        refuses("belief(#)", BAD, NotYetSaid::belief, -1, 101, LEAST, MOST);
    }

    /** There and back again: nothing else has changed. */
    private static void nothingElse() {
        says("Promises 4, 5, 8, 9: .. becomes ..: what it was");
        int[] was = {0, 13, 5, 3};
        int[] becomes = {0, 60, 100, 9};
        for (int k = 1; k <= 3; k++) {
            int what = k;
            still(Checks::everything, "change(2, " + what + ", ..), and back", becomes[k], x -> {
                due("change(2, " + what + ", " + becomes[what] + ")", x.change(2, what, becomes[what]), was[what]);
                return x.change(2, what, was[what]);
            });
        }
        for (int k = 1; k <= 5; k++) {
            int kind = k;
            still(Checks::everything, "remake(2, " + k + "), and back", k, x -> {
                due("remake(2, " + kind + ")", x.remake(2, kind), 3);
                return x.remake(2, 3);
            });
        }
        still(Checks::everything, "drives(3, 99, 2), and back", 74, x -> {
            due("drives(3, 99, 2)", x.drives(3, 99, 2), 164);
            return x.drives(3, 9, 1);
        });
        still(Checks::everything, "belief(100), and back", 100, x -> {
            due("belief(100)", x.belief(100), 97);
            return x.belief(97);
        });
    }

    private static void stateWithin() {
        says("Promise 10: What = 0 MINUTE, .. 4 THE END. BAD.");
        refuses("state(#)", BAD, NotYetSaid::state, -1, 5, LEAST, MOST);
        int[] behind19 = {19, 100, 1, 1, 30};
        for (int what = 0; what <= 4; what++) {
            due("state(" + what + ")", behind(19).state(what), behind19[what]);
        }
    }

    private static void anewAtEdges() {
        says("Promise 11: The ride begins anew: MINUTE 0, BELIEF 100, each TOLD 0: MINUTE that was.");
        still(NotYetSaid::new, "anew() of a new one", 0, NotYetSaid::anew);
        still(() -> behind(0), "anew() at the beginning", 0, NotYetSaid::anew);
        still(Checks::notBegun, "anew(): nothing but these", 0, NotYetSaid::anew);
        NotYetSaid x = road(9, 0);
        for (int a = 0; a < 9; a++) {
            x.answer(2, 1, 11, 1);
        }
        for (int a = 0; a < 9; a++) {
            x.say(a);
        }
        state(x, 9, 1);
        due("anew(), over", x.anew(), 9);
        state(x, 0, 100);
        for (int a = 0; a < 9; a++) {
            due("answerOf(" + a + ", 4)", x.answerOf(a, 4), 0);
        }
        NotYetSaid y = trip();
        y.belief(7);
        y.anew();
        due("BELIEF that was told, too", y.state(1), 100);
    }

    // ---- to tell one

    private static void told() {
        says("Terms: CAN BE TOLD: TOLD is below LEFT");
        NotYetSaid x = one(99, 1, 0, 2);
        due("TOLD 0 of 2", x.say(0), 1);
        due("TOLD 1 of 2", x.say(0), 1);
        due("can(), TOLD 2 of 2", x.can(), 0);
        still(() -> toldTwice(2), "say(0), TOLD 2 of 2", STATE, y -> y.say(0));
        still(() -> toldTwice(1), "say(0), TOLD 2 of 1", STATE, y -> y.say(0));
        still(() -> one(99, 1, 0, 0), "say(0), TOLD 0 of 0", STATE, y -> y.say(0));
        due("say(0), TOLD 2 of 3", toldTwice(3).say(0), 1);
        NotYetSaid nine = one(99, 1, 0, 9);
        for (int k = 0; k < 9; k++) {
            due("nine times", nine.say(0), 1);
        }
        due("not a tenth time", nine.say(0), STATE);
        says("Terms: CAN BE TOLD: COSTS is BELIEF at most");
        still(() -> believed(10, 9), "say(0), COSTS 10 of 9", STATE, y -> y.say(0));
        still(() -> believed(1, 0), "say(0), COSTS 1 of 0", STATE, y -> y.say(0));
        due("can(), COSTS 10 of 9", believed(10, 9).can(), 0);
        due("can(), COSTS 10 of 10", believed(10, 10).can(), 1);
        due("say(0), COSTS 10 of 10", believed(10, 10).say(0), 5);
        due("say(0), COSTS 10 of 11", believed(10, 11).say(0), 5);
        due("say(0), COSTS 0 of 0", believed(0, 0).say(0), 5);
        due("say(0), COSTS 100 of 100", believed(100, 100).say(0), 5);
        says("Terms: CAN BE TOLD: It isn't OVER");
        due("say(0) a minute ahead of THE END", behind(29).say(0), 1);
        still(() -> behind(30), "say(0) at THE END", STATE, y -> y.say(0));
        says("Promise 14: An ANSWER is TOLD: how many minutes pass. BAD");
        refuses("say(#)", BAD, NotYetSaid::say, -1, 5, 9, LEAST, MOST);
        still(NotYetSaid::new, "say(0) of none", BAD, y -> y.say(0));
        says("Promise 15: Those that CAN BE TOLD, as a set.");
        still(Checks::everything, "can()", 31, NotYetSaid::can);
        still(NotYetSaid::new, "can()", 0, NotYetSaid::can);
    }

    private static NotYetSaid toldTwice(int left) {
        NotYetSaid x = one(99, 1, 0, 2);
        x.say(0);
        x.say(0);
        x.change(0, 3, left);
        return x;
    }

    private static NotYetSaid believed(int costs, int belief) {
        NotYetSaid x = one(99, 5, costs, 9);
        x.belief(belief);
        return x;
    }

    private static void toTell() {
        says("Terms: To TELL it: MINUTE is HOLDS NOW more (but not beyond THE END)");
        int[][] passes = {{19, 19}, {20, 20}, {21, 20}, {60, 20}, {1, 1}};
        for (int[] p : passes) {
            NotYetSaid x = one(20, p[0], 30, 9);
            due("say(0), HOLDS NOW " + p[0] + " of 20", x.say(0), p[1]);
            says("Terms: BELIEF is COSTS less, TOLD is 1 more");
            state(x, p[1], 70);
            due("answerOf(0, 4)", x.answerOf(0, 4), 1);
            says("Terms: To TELL it: MINUTE is HOLDS NOW more (but not beyond THE END)");
        }
        NotYetSaid x = one(20, 19, 0, 9);
        x.say(0);
        due("a minute is left", x.say(0), 1);
        due("state(0)", x.state(0), 20);
        NotYetSaid all = one(20, 19, 100, 9);
        due("all that is believed", all.say(0), 19);
        state(all, 19, 0);
    }

    public static void main(String[] args) {
        theFirstNamedIsTheAnswer();
        setsAreToldByBits();
        quotientsAreCut();
        atFirst();
        nineAnswers();
        answersWithin();
        answerOfWithin();
        changeWithin();
        remakeWithin();
        holdsNow();
        rulesOnHolds();
        theFirstRuleOfItsKind();
        eightLegs();
        legsWithin();
        theLegNow();
        drivesWithin();
        beliefWithin();
        nothingElse();
        stateWithin();
        anewAtEdges();
        told();
        toTell();
        end();
    }
}
