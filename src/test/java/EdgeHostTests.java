/**
 * The host, and what is kept (part 3, promises 38 to 49): each sentence that names a bound, an edge or a refusal, with the
 * last value on either side of it; a refused call changes nothing.
 */
public final class EdgeHostTests extends Checks {

    /** A SHEET 0 of that sort, each item unlike 0. */
    private static NotYetSaid sheetOf(int sort, int n) {
        NotYetSaid x = trip();
        x.sheet(0, sort, n);
        for (int i = 0; i < n; i++) {
            x.write(0, i, i + 1);
        }
        return x;
    }

    /** ANSWER n is of that KIND and holds a minutes; it is on SHELF 0. */
    private static NotYetSaid thing(int kind, int n, int a) {
        NotYetSaid x = new NotYetSaid();
        for (int k = 0; k < n; k++) {
            x.answer(1, 1, 0, 0);
        }
        x.answer(kind, a, 0, 0);
        x.shelf(0, 0, n);
        return x;
    }

    // ---- SHEETS

    private static void missingAtFirst() {
        says("Terms: SHEETS 0 to 3 .. or missing (at first). SHELVES 0 to 3 hold .. nothing (at first).");
        for (int k = 0; k <= 3; k++) {
            int at = k;
            for (int sort = 0; sort <= 4; sort++) {
                int as = sort;
                still(NotYetSaid::new, "item(" + k + ", " + sort + ", 0)", MISSING, x -> x.item(at, as, 0));
                still(NotYetSaid::new, "taken(" + k + ", " + (10 + sort) + ")", MISSING, x -> x.taken(at, 10 + as));
            }
            still(NotYetSaid::new, "taken(" + k + ", 0)", MISSING, x -> x.taken(at, 0));
            still(NotYetSaid::new, "write(" + k + ", 0, 1)", MISSING, x -> x.write(at, 0, 1));
            still(NotYetSaid::new, "tellAll(" + k + ", 0, 1)", MISSING, x -> x.tellAll(at, 0, 1));
            still(NotYetSaid::new, "wouldCost(" + k + ", 0, 1)", MISSING, x -> x.wouldCost(at, 0, 1));
            still(NotYetSaid::new, "act(" + k + ", 0, 1)", 0, x -> x.act(at, 0, 1));
        }
    }

    private static void sheetsWithin() {
        says("Promise 38: BAD: no such SHEET, sort, n above 40");
        refuses("sheet(#, 0, 3)", BAD, (x, v) -> x.sheet(v, 0, 3), -1, 4, LEAST, MOST);
        refuses("sheet(#, -1, 3)", BAD, (x, v) -> x.sheet(v, -1, 3), -1, 4, LEAST, MOST);
        refuses("sheet(0, #, 3)", BAD, (x, v) -> x.sheet(0, v, 3), -2, 5, LEAST, MOST);
        refuses("sheet(0, 0, #)", BAD, (x, v) -> x.sheet(0, 0, v), 41, 42, MOST);
        refuses("sheet(#, 0, -1), -14 too", BAD, (x, v) -> x.sheet(v, 0, -1), -1, 4);
        refuses("sheet(0, #, -1), -14 too", BAD, (x, v) -> x.sheet(0, v, -1), -2, 5);
        says("Promise 38: -14 (a size below 0)");
        for (int sort = 0; sort <= 4; sort++) {
            int of = sort;
            refuses("sheet(0, " + sort + ", #)", BELOW_0, (x, v) -> x.sheet(0, of, v), -1, -2, LEAST);
            refuses("sheet(0, " + sort + ", #)", BAD, (x, v) -> x.sheet(0, of, v), 41, MOST);
        }
        says("Promise 38: A SHEET becomes a row of n of a sort, all 0 (Terms: 40 at most)");
        for (int sheet = 0; sheet <= 3; sheet++) {
            for (int sort = 0; sort <= 4; sort++) {
                for (int n : new int[] {0, 1, 39, 40}) {
                    NotYetSaid x = new NotYetSaid();
                    x.sheet(sheet, 2, 40);
                    x.write(sheet, 0, 7);
                    x.write(sheet, 39, 7);
                    due("sheet(" + sheet + ", " + sort + ", " + n + ")", x.sheet(sheet, sort, n), 1);
                    for (int i = 0; i <= 40; i++) {
                        due("item(" + sheet + ", " + sort + ", " + i + ")", x.item(sheet, sort, i), i < n ? 0 : OUTSIDE);
                    }
                    due("item(" + sheet + ", " + sort + ", -1)", x.item(sheet, sort, -1), OUTSIDE);
                }
            }
        }
        says("Promise 38: or missing (sort -1; n counts nothing then): 1.");
        for (int n : new int[] {0, 5, 40, 41, -1, LEAST, MOST}) {
            NotYetSaid x = sheetOf(0, 3);
            due("sheet(0, -1, " + n + ")", x.sheet(0, -1, n), 1);
            due("item(0, 0, 0)", x.item(0, 0, 0), MISSING);
            due("write(0, 0, 1)", x.write(0, 0, 1), MISSING);
            due("sheet(0, -1, " + n + "), missing already", x.sheet(0, -1, n), 1);
        }
        still(Checks::everything, "sheet(3, 2, 40), and missing again", 1, y -> {
            y.sheet(3, 2, 40);
            return y.sheet(3, -1, 0);
        });
        NotYetSaid x = sheetOf(0, 2);
        x.sheet(1, 0, 2);
        x.write(1, 0, 9);
        due("another SHEET's item", x.item(0, 0, 0), 1);
        x.sheet(1, -1, 0);
        due("another SHEET stays", x.item(0, 0, 1), 2);
    }

    private static void writeWithin() {
        says("Promise 39: BAD: no such SHEET; -11; -12.");
        refuses("write(#, 0, 5)", BAD, (x, v) -> x.write(v, 0, 5), -1, 4, LEAST, MOST);
        refuses("write(3, #, 5), missing", MISSING, (x, v) -> x.write(3, v, 5), 0, 1, -1, 40, LEAST, MOST);
        for (int sort = 0; sort <= 4; sort++) {
            int of = sort;
            refuses(() -> sheetOf(of, 3), "write(0, #, 0), sort " + sort, OUTSIDE, (x, v) -> x.write(0, v, 0), -1, 3, 40, LEAST,
                    MOST);
            refuses(() -> sheetOf(of, 40), "write(0, #, 0), sort " + sort, OUTSIDE, (x, v) -> x.write(0, v, 0), -1, 40);
            refuses(() -> sheetOf(of, 0), "write(0, #, 0), sort " + sort, OUTSIDE, (x, v) -> x.write(0, v, 0), -1, 0);
            NotYetSaid x = new NotYetSaid();
            x.sheet(0, sort, 40);
            due("write(0, 0, 1)", x.write(0, 0, 1), 1);
            due("write(0, 39, 1)", x.write(0, 39, 1), 1);
            for (int i = 0; i < 40; i++) {
                due("item(0, " + sort + ", " + i + ")", x.item(0, sort, i), i == 0 || i == 39 ? 1 : 0);
            }
        }
        still(Checks::everything, "write(1, 1, 5), and back", 1, x -> {
            x.write(1, 1, 5);
            return x.write(1, 1, 1234567);
        });
        says("Promise 39: Item i becomes v, narrowed to its sort (booleans: whether it is not 0): 1.");
        int[] values = {0, 1, -1, 127, 128, 255, 256, -128, -129, -256, 32767, 32768, 65535, 65536, -32768, -32769, LEAST, MOST};
        for (int v : values) {
            int[] narrowed = {(v + 128 & 255) - 128, (v + 32768 & 65535) - 32768, v, v, v == 0 ? 0 : 1};
            for (int sort = 0; sort <= 4; sort++) {
                NotYetSaid x = sheetOf(sort, 2);
                due("write(0, 1, " + v + "), sort " + sort, x.write(0, 1, v), 1);
                due("item(0, " + sort + ", 1)", x.item(0, sort, 1), narrowed[sort]);
                due("the other item", x.item(0, sort, 0), 1);
            }
        }
    }

    private static void itemWithin() {
        says("Promise 40: Item i, taken for a sort (0 to 4 ..). BAD: no such SHEET, sort; -13; -11; -12.");
        refuses("item(#, 0, 0)", BAD, (x, v) -> x.item(v, 0, 0), -1, 4, LEAST, MOST);
        refuses("item(0, #, 0)", BAD, (x, v) -> x.item(0, v, 0), -1, 5, LEAST, MOST);
        refuses("item(3, #, 0), missing too", BAD, (x, v) -> x.item(3, v, 0), -1, 5);
        refuses("item(3, 0, #), missing", MISSING, (x, v) -> x.item(3, 0, v), 0, -1, 40, LEAST, MOST);
        for (int sort = 0; sort <= 4; sort++) {
            int of = sort;
            for (int as = 0; as <= 4; as++) {
                int taken = as;
                int refusal = as == sort ? OUTSIDE : OTHER_SORT;
                refuses(() -> sheetOf(of, 3), "item(0, " + as + ", #), sort " + sort, refusal, (x, v) -> x.item(0, taken, v), -1, 3,
                        LEAST, MOST);
                still(() -> sheetOf(of, 3), "item(0, " + as + ", 2), sort " + sort, as != sort ? OTHER_SORT : sort == 4 ? 1 : 3,
                        x -> x.item(0, taken, 2));
            }
        }
        says("Promise 40: (An item may be as low as these, too.)");
        NotYetSaid x = sheetOf(0, 1);
        for (int v : new int[] {BAD, OTHER_SORT, MISSING, OUTSIDE}) {
            x.write(0, 0, v);
            due("item(0, 0, 0)", x.item(0, 0, 0), v);
        }
    }

    /** SHEET 0: its bytes; the ANSWERS are trip()'s. */
    private static NotYetSaid told(int... items) {
        NotYetSaid x = trip();
        bytes(x, 0, items);
        return x;
    }

    private static void tellAllWithin() {
        says("Promise 41: n (0 to 20) items of a SHEET taken for bytes, from item i on .. BAD: no such SHEET, n");
        refuses("tellAll(#, 0, 1)", BAD, (x, v) -> x.tellAll(v, 0, 1), -1, 4, LEAST, MOST);
        refuses("tellAll(0, 0, #)", BAD, (x, v) -> x.tellAll(0, 0, v), -1, 21, LEAST, MOST);
        refuses("tellAll(3, 0, #), missing too", BAD, (x, v) -> x.tellAll(3, 0, v), -1, 21);
        refuses("tellAll(1, 0, #), of longs too", BAD, (x, v) -> x.tellAll(1, 0, v), -1, 21);
        says("Promise 41: -13; -11; -12");
        for (int sort = 1; sort <= 4; sort++) {
            int of = sort;
            refuses(() -> sheetOf(of, 3), "tellAll(0, #, 1), sort " + sort, OTHER_SORT, (x, v) -> x.tellAll(0, v, 1), 0, -1, 3);
        }
        refuses("tellAll(3, #, 1), missing", MISSING, (x, v) -> x.tellAll(3, v, 1), 0, -1, 40, LEAST, MOST);
        refuses(() -> told(1, 1, 3), "tellAll(0, #, 1)", OUTSIDE, (x, v) -> x.tellAll(0, v, 1), -1, 3, 40, LEAST, MOST);
        refuses(() -> told(1, 1, 3), "tellAll(0, #, 20)", OUTSIDE, (x, v) -> x.tellAll(0, v, 20), -1, 3, LEAST, MOST, MOST - 10);
        refuses(EdgeHostTests::told, "tellAll(0, #, 1) without items", OUTSIDE, (x, v) -> x.tellAll(0, v, 1), 0);
        says("Promise 41: those are TOLD, one behind the other: how many minutes pass");
        int[] passed = {0, 15, 30, 40};
        for (int n = 0; n <= 3; n++) {
            NotYetSaid x = told(1, 1, 3);
            x.drives(1, 99, 0);
            due("tellAll(0, 0, " + n + ")", x.tellAll(0, 0, n), passed[n]);
            state(x, passed[n], n == 3 ? 97 : 100);
            due("answerOf(1, 4)", x.answerOf(1, 4), Math.min(n, 2));
        }
        NotYetSaid last = told(1, 1, 3);
        due("tellAll(0, 2, 1): the last item alone", last.tellAll(0, 2, 1), 10);
        state(last, 10, 97);
        NotYetSaid twenty = one(99, 1, 0, 9);
        for (int a = 1; a < 3; a++) {
            twenty.answer(2, 1, 0, 9);
        }
        twenty.sheet(0, 0, 40);
        for (int i = 0; i < 40; i++) {
            twenty.write(0, i, i % 3);
        }
        due("tellAll(0, 0, 20)", twenty.tellAll(0, 0, 20), 20);
        due("tellAll(0, 20, 20): each 9 times", twenty.tellAll(0, 20, 20), 7);
        still(() -> sheetOf(0, 40), "tellAll(0, 40, 0)", 0, x -> x.tellAll(0, 40, 0));
        says("Promise 41: (those that say() refuses are left out)");
        NotYetSaid x = told(1, 5, 1, -1, 1, 127, 3);
        x.belief(5);
        x.write(0, 1, 0);
        due("too dear, too often, no such ones", x.tellAll(0, 0, 7), 15 + 15 + 5);
        state(x, 35, 2);
        NotYetSaid over = told(1, 1, 0, 0, 0, 0, 2);
        due("not beyond THE END", over.tellAll(0, 0, 7), 65);
        due("three soons were enough", over.answerOf(0, 4), 3);
        due("the song was refused", over.answerOf(2, 4), 0);
        due("over: all are refused", over.tellAll(0, 0, 7), 0);
        says("Promise 41: -12: what stood ahead was done");
        for (int i = 0; i <= 2; i++) {
            NotYetSaid y = told(1, 1, 3);
            y.drives(1, 99, 0);
            due("tellAll(0, " + i + ", " + (4 - i) + ")", y.tellAll(0, i, 4 - i), OUTSIDE);
            state(y, i == 0 ? 40 : i == 1 ? 25 : 10, 97);
            due("answerOf(1, 4)", y.answerOf(1, 4), 2 - i);
        }
        NotYetSaid y = told(1, 1, 3);
        due("tellAll(0, 0, 20)", y.tellAll(0, 0, 20), OUTSIDE);
        due("answerOf(3, 4)", y.answerOf(3, 4), 1);
    }

    private static void wouldCostWithin() {
        says("Promise 42: n (0 to 20) items likewise .. BAD: no such SHEET, n");
        refuses("wouldCost(#, 0, 1)", BAD, (x, v) -> x.wouldCost(v, 0, 1), -1, 4, LEAST, MOST);
        refuses("wouldCost(0, 0, #)", BAD, (x, v) -> x.wouldCost(0, 0, v), -1, 21, LEAST, MOST);
        refuses("wouldCost(3, 0, #), missing too", BAD, (x, v) -> x.wouldCost(3, 0, v), -1, 21);
        refuses("wouldCost(1, 0, #), of longs too", BAD, (x, v) -> x.wouldCost(1, 0, v), -1, 21);
        says("Promise 42: -13; -11");
        for (int sort = 1; sort <= 4; sort++) {
            int of = sort;
            refuses(() -> sheetOf(of, 3), "wouldCost(0, #, 1), sort " + sort, OTHER_SORT, (x, v) -> x.wouldCost(0, v, 1), 0, -1, 3);
        }
        refuses("wouldCost(3, #, 1), missing", MISSING, (x, v) -> x.wouldCost(3, v, 1), 0, -1, 40, LEAST, MOST);
        says("Promise 42: then, by items, -12; STATE: one couldn't be TOLD then.");
        refuses(() -> told(1, 1, 3), "wouldCost(0, #, 1)", OUTSIDE, (x, v) -> x.wouldCost(0, v, 1), -1, 3, 40, LEAST, MOST);
        refuses(() -> told(1, 1, 3), "wouldCost(0, #, 20)", OUTSIDE, (x, v) -> x.wouldCost(0, v, 20), -1, 0, 2, 3, MOST, MOST - 10);
        refuses(() -> told(1, 1, 1), "wouldCost(0, 0, #): STATE ahead of -12", STATE, (x, v) -> x.wouldCost(0, 0, v), 3, 4, 20);
        refuses(() -> told(1, 1, 1), "wouldCost(0, 1, #): -12 ahead of none", OUTSIDE, (x, v) -> x.wouldCost(0, 1, v), 3, 20);
        refuses(() -> told(5, 0), "wouldCost(0, 0, #): no such ANSWER", STATE, (x, v) -> x.wouldCost(0, 0, v), 1, 2, 3);
        refuses(() -> told(-1, 0), "wouldCost(0, 0, #): no such ANSWER", STATE, (x, v) -> x.wouldCost(0, 0, v), 1, 2);
        refuses(() -> told(1, 1, 0, 0, 0, 3, 2), "wouldCost(0, 0, #): over", STATE, (x, v) -> x.wouldCost(0, 0, v), 7, 8);
        says("Promise 42: by how much BELIEF would be less if they were TOLD one behind the other");
        int[] costs = {0, 10, 15, 35, 38};
        for (int n = 0; n <= 4; n++) {
            int many = n;
            still(() -> told(0, 2, 4, 3), "wouldCost(0, 0, " + n + ")", costs[n], x -> x.wouldCost(0, 0, many));
        }
        still(() -> told(0, 2, 4, 3), "wouldCost(0, 3, 1)", 3, x -> x.wouldCost(0, 3, 1));
        still(() -> sheetOf(0, 40), "wouldCost(0, 40, 0)", 0, x -> x.wouldCost(0, 40, 0));
        NotYetSaid dear = told(0, 2);
        dear.belief(15);
        due("all that is believed", dear.wouldCost(0, 0, 2), 15);
        dear.belief(14);
        due("1 less is believed", dear.wouldCost(0, 0, 2), STATE);
        due("the first alone", dear.wouldCost(0, 0, 1), 10);
        NotYetSaid twenty = road(99, 0);
        for (int a = 0; a < 3; a++) {
            twenty.answer(2, 1, 2 + a, 9);
        }
        twenty.sheet(0, 0, 20);
        for (int i = 0; i < 20; i++) {
            twenty.write(0, i, i % 3);
        }
        // 7 times 2, 7 times 3, 6 times 4
        due("wouldCost(0, 0, 20)", twenty.wouldCost(0, 0, 20), 59);
    }

    // ---- SHELVES

    private static void shelvesWithin() {
        says("Promise 43: BAD: no such SHELF, what, thing.");
        refuses("shelf(#, 0, 0)", BAD, (x, v) -> x.shelf(v, 0, 0), -1, 4, LEAST, MOST);
        refuses("shelf(#, 2, 0)", BAD, (x, v) -> x.shelf(v, 2, 0), -1, 4);
        refuses("shelf(0, #, 0)", BAD, (x, v) -> x.shelf(0, v, 0), -1, 3, LEAST, MOST);
        refuses("shelf(0, 0, #)", BAD, (x, v) -> x.shelf(0, 0, v), -1, 5, LEAST, MOST);
        refuses("shelf(0, 1, #)", BAD, (x, v) -> x.shelf(0, 1, v), -1, 4, LEAST, MOST);
        refuses(Checks::full, "shelf(0, 0, #)", BAD, (x, v) -> x.shelf(0, 0, v), -1, 9);
        refuses(NotYetSaid::new, "shelf(0, 0, #) without ANSWERS", BAD, (x, v) -> x.shelf(0, 0, v), 0);
        says("Promise 43: A SHELF holds ANSWER n (what 0), the row of SHEET n (1; nothing, if missing), nothing (2): 1.");
        for (int shelf = 0; shelf <= 3; shelf++) {
            for (int n = 0; n <= 4; n++) {
                NotYetSaid x = trip();
                due("shelf(" + shelf + ", 0, " + n + ")", x.shelf(shelf, 0, n), 1);
                for (int other = 0; other <= 3; other++) {
                    due("taken(" + other + ", 0)", x.taken(other, 0), other == shelf ? n : MISSING);
                }
            }
            for (int n = 0; n <= 3; n++) {
                NotYetSaid x = trip();
                x.shelf(shelf, 0, 1);
                due("shelf(" + shelf + ", 1, " + n + "), missing", x.shelf(shelf, 1, n), 1);
                due("taken(" + shelf + ", 0)", x.taken(shelf, 0), MISSING);
                x.sheet(n, 1, 7 + n);
                due("shelf(" + shelf + ", 1, " + n + ")", x.shelf(shelf, 1, n), 1);
                due("taken(" + shelf + ", 11)", x.taken(shelf, 11), 7 + n);
                for (int any : new int[] {0, -1, LEAST, MOST}) {
                    x.shelf(shelf, 0, 0);
                    due("shelf(" + shelf + ", 2, " + any + ")", x.shelf(shelf, 2, any), 1);
                    due("taken(" + shelf + ", 0)", x.taken(shelf, 0), MISSING);
                    due("act(" + shelf + ", 0, 1)", x.act(shelf, 0, 1), 0);
                }
            }
        }
        still(Checks::everything, "shelf(2, 0, 1), and nothing again", 1, y -> {
            y.shelf(2, 0, 1);
            return y.shelf(2, 2, 0);
        });
        NotYetSaid x = new NotYetSaid();
        for (int a = 0; a < 9; a++) {
            x.answer(3, 5, 0, 0);
        }
        due("shelf(3, 0, 8)", x.shelf(3, 0, 8), 1);
        due("taken(3, 3)", x.taken(3, 3), 8);
        says("Terms: SHELVES hold an ANSWER (by its number; nothing, if there is no such one at the time)");
        NotYetSaid y = trip();
        y.keep();
        y.answer(3, 5, 0, 1);
        y.shelf(0, 0, 5);
        y.shelf(1, 0, 4);
        due("taken(0, 3)", y.taken(0, 3), 5);
        y.again();
        for (int as : new int[] {0, 3, 5, 10, 14}) {
            due("taken(0, " + as + "), no such ANSWER", y.taken(0, as), MISSING);
        }
        due("act(0, 0, 1), no such ANSWER", y.act(0, 0, 1), 0);
        due("taken(1, 5)", y.taken(1, 5), 4);
        y.answer(1, 5, 0, 1);
        due("taken(0, 1), another one of that number", y.taken(0, 1), 5);
        y.remake(5, 5);
        due("taken(0, 4), of another KIND", y.taken(0, 4), 5);
    }

    private static void takenWithin() {
        says("Promise 44: BAD: no such SHELF, as; -13; -11.");
        refuses("taken(#, 0)", BAD, (x, v) -> x.taken(v, 0), -1, 4, LEAST, MOST);
        refuses("taken(0, #)", BAD, (x, v) -> x.taken(0, v), -1, 6, 9, 15, LEAST, MOST);
        refuses("taken(1, #), a row", BAD, (x, v) -> x.taken(1, v), -1, 6, 9, 15);
        refuses("taken(2, #), nothing", BAD, (x, v) -> x.taken(2, v), -1, 6, 9, 15);
        refuses("taken(2, #), nothing", MISSING, (x, v) -> x.taken(2, v), 0, 5, 10, 14);
        says("Promise 44: taken for a thing of KIND as (0 to 5, or one under it): its number");
        boolean[][] under = {{true, true, false, false, false, false}, {true, false, true, false, false, false},
            {true, false, true, true, false, false}, {true, false, false, false, true, false},
            {true, false, false, false, true, true}};
        for (int kind = 1; kind <= 5; kind++) {
            NotYetSaid x = thing(kind, 3, 5);
            for (int as = 0; as <= 5; as++) {
                due("KIND " + kind + " as " + as, x.taken(0, as), under[kind - 1][as] ? 3 : OTHER_SORT);
            }
            for (int as = 10; as <= 14; as++) {
                due("KIND " + kind + " as " + as, x.taken(0, as), OTHER_SORT);
            }
        }
        says("Promise 44: for a row of sort as - 10 (as 10 to 14): how many items");
        for (int sort = 0; sort <= 4; sort++) {
            for (int n : new int[] {0, 1, 40}) {
                NotYetSaid x = sheetOf(sort, n);
                x.shelf(0, 1, 0);
                for (int as = 0; as <= 14; as = as == 5 ? 10 : as + 1) {
                    due("sort " + sort + " as " + as, x.taken(0, as), as == 10 + sort ? n : OTHER_SORT);
                }
            }
        }
        says("Terms: SHELVES hold .. a SHEET's row");
        NotYetSaid x = sheetOf(0, 3);
        x.shelf(0, 1, 0);
        x.sheet(0, -1, 0);
        due("the SHEET is missing now", x.taken(0, 10), 3);
        x.sheet(0, 1, 9);
        due("the SHEET is another row now", x.taken(0, 10), 3);
        x.shelf(0, 1, 0);
        due("that row", x.taken(0, 11), 9);
    }

    // ---- ACTS

    private static void actsWithin() {
        says("Promise 45: 0, and no TRACE then: no such SHELF, act, nothing, a row.");
        int[][] none = {{-1, 0}, {4, 0}, {LEAST, 0}, {MOST, 0}, {0, -1}, {0, 4}, {0, LEAST}, {0, MOST}, {1, 0}, {1, 3}, {2, 0}, {2, 3}};
        for (int[] n : none) {
            NotYetSaid x = everything();
            due("many(6)", x.many(6), 7);
            due("act(" + n[0] + ", " + n[1] + ", 5)", x.act(n[0], n[1], 5), 0);
            trace(x);
        }
        says("Promise 45: An ACT (0 to 3) of the thing on a SHELF, with x.");
        for (int shelf = 0; shelf <= 3; shelf++) {
            NotYetSaid x = trip();
            x.shelf(shelf, 0, 1);
            int[] due = {115, 114 ^ 1, 7, (114 ^ 1) ^ 15};
            for (int act = 0; act <= 3; act++) {
                due("act(" + shelf + ", " + act + ", 100)", x.act(shelf, act, 100), due[act]);
            }
        }
        says("Terms: with a number x (ints that wrap)");
        due("answer says", thing(2, 1, 7).act(0, 0, MOST), LEAST + 6);
        due("answer says", thing(2, 1, 7).act(0, 0, LEAST), LEAST + 7);
        due("soon says", thing(1, 1, 7).act(0, 0, MOST - 7), -2);
        due("soon says", thing(1, 1, 7).act(0, 0, 1 << 30), LEAST + 14);
        due("song says", thing(3, 0, 1).act(0, 0, MOST), MOST);
        due("biscuit shares", thing(4, 1, 2).act(0, 2, LEAST), MOST - 2);
        due("stop sways", thing(5, 0, 1).act(0, 1, MOST), LEAST);
        says("Terms: n: its number, a: its HOLDS; x by (a - n), the rest away; Quotients are cut towards 0.");
        int[][] shares = {{7, 3}, {8, 4}, {-7, -3}, {-8, -4}, {1, 0}, {-1, 0}, {0, 0}};
        for (int[] s : shares) {
            due("shares " + s[0] + " by 2", thing(2, 1, 3).act(0, 2, s[0]), s[1]);
            due("shares " + s[0] + " by -2", thing(2, 3, 1).act(0, 2, s[0]), -s[1]);
        }
        due("shares by 1", thing(2, 0, 1).act(0, 2, LEAST), LEAST);
        due("shares by -1", thing(2, 2, 1).act(0, 2, LEAST), LEAST);
        due("shares by -7", thing(2, 8, 1).act(0, 2, 100), -14);
        due("shares by 60", thing(2, 0, 60).act(0, 2, 120), 2);
        due("biscuit shares 3 less", thing(4, 0, 1).act(0, 2, 3), 0);
        due("stop shares 3 less", thing(5, 1, 3).act(0, 2, 0), -1 - 4);
    }

    private static void partedBy0() {
        says("Terms: (-15 if these are the same; that is all that act() answers then)");
        int[][][] bodies = {{{12}}, {{12}}, {{12}, {51, 13, 30, 11, 50, 10, 12}}, {{40, 12}}, {{61, 40, 12}}};
        for (int kind = 1; kind <= 5; kind++) {
            for (int n = 1; n <= 8; n++) {
                NotYetSaid x = thing(kind, n, n);
                due("KIND " + kind + " shares, n and a are " + n, x.act(0, 2, 100), PARTED_BY_0);
                trace(x, bodies[kind - 1][0]);
                due("a is 1 more", x.change(n, 1, n + 1), n);
                int by1 = kind == 4 ? 97 : kind == 5 ? 97 - (n + n + 1) : 100;
                due("KIND " + kind + " shares by 1", x.act(0, 2, 100), by1);
                x.change(n, 1, n);
                int told = x.act(0, 3, 100);
                due("KIND " + kind + " tells", told == PARTED_BY_0 ? 1 : 0, kind == 3 ? 1 : 0);
                if (kind == 3) {
                    trace(x, bodies[2][1]);
                }
                due("KIND " + kind + " says", x.act(0, 0, 0), kind == 1 ? 2 * n : kind == 3 ? n - 1 : n);
            }
            due("KIND " + kind + " shares, n 0 and a 1", thing(kind, 0, 1).act(0, 2, 3), kind < 4 ? 3 : kind == 4 ? 0 : -1);
        }
    }

    private static void traces() {
        says("Terms: THE TRACE: numbers of the bodies that ran in the latest act(), as they began (left first)");
        int[][][] bodies = {{{20, 10}, {11, 20, 10}, {12}, {13, 11, 20, 10}}, {{10}, {30, 11, 10}, {12}, {13, 30, 11, 10}},
            {{50, 10}, {30, 11, 50, 10}, {12}, {51, 13, 30, 11, 50, 10, 12}}, {{10}, {11, 10}, {40, 12}, {13, 11, 10}},
            {{10}, {60, 11, 10}, {61, 40, 12, 10}, {13, 60, 11, 10}}};
        // x 100, n 2, a 9: 109; 109 - 2; 100 by 7; 107 ^ 9. soon 218, 216, 14, 216 ^ 9. game 107 ^ 2, 105 ^ 9.
        // song 108, 106 ^ 2, (104 ^ 9) + 9 by 7. biscuit 97 by 7. stop 0 - 107, 97 by 7 - (2 + 9), -107 ^ 9
        int[][] done = {{218, 216, 14, 216 ^ 9}, {109, 105, 14, 105 ^ 9}, {108, 104, 14, (104 ^ 9) + 1},
            {109, 107, 13, 107 ^ 9}, {109, -107, 2, -107 ^ 9}};
        for (int kind = 1; kind <= 5; kind++) {
            NotYetSaid x = thing(kind, 2, 9);
            for (int act = 3; act >= 0; act--) {
                due("KIND " + kind + ", act " + act, x.act(0, act, 100), done[kind - 1][act]);
                trace(x, bodies[kind - 1][act]);
            }
        }
        says("Promise 46: THE TRACE's i-th body. NONE.");
        refuses("trace(#)", NONE, NotYetSaid::trace, -1, 7, 29, 30, LEAST, MOST);
        refuses(NotYetSaid::new, "trace(#) of a new one", NONE, NotYetSaid::trace, -1, 0);
        still(Checks::everything, "trace(0)", 51, x -> x.trace(0));
        still(Checks::everything, "trace(6)", 12, x -> x.trace(6));
        NotYetSaid x = everything();
        x.shelf(0, 2, 0);
        x.sheet(0, -1, 0);
        x.say(0);
        x.again();
        trace(x, 51, 13, 30, 11, 50, 10, 12);
    }

    // ---- counts, what is kept

    private static void counts() {
        says("Promise 47: How many: what = 0 ANSWERS, .. 6 bodies of THE TRACE. BAD: another what.");
        refuses("many(#)", BAD, NotYetSaid::many, -1, 7, LEAST, MOST);
        int[] some = {5, 2, 4, 2, 4, 12, 7};
        int[] most = {9, 2, 8, 6, 4, 200, 7};
        NotYetSaid x = everything();
        for (int what = 0; what <= 6; what++) {
            int count = what;
            due("many(" + what + ")", x.many(what), some[what]);
            still(Checks::full, "many(" + what + ")", most[what], y -> y.many(count));
        }
        says("Promise 47: 1 RULES (Terms: 8 at most)");
        NotYetSaid rules = new NotYetSaid();
        due("eight", rules(rules, "soon nil;".repeat(8)), 8);
        due("many(1)", rules.many(1), 8);
    }

    /** All that is kept is as it was; the rest stays as it is. */
    private static void kept() {
        says("Promise 48: All but THE TAPE, ROWS, SHEETS, SHELVES, THE TRACE is kept: 1.");
        NotYetSaid x = everything();
        due("keep()", x.keep(), 1);
        x.say(0);
        x.belief(3);
        x.change(0, 1, 60);
        x.change(0, 2, 60);
        x.change(0, 3, 9);
        x.remake(0, 5);
        x.answer(2, 9, 9, 9);
        x.leg(99, 2);
        x.drives(3, 98, 0);
        x.forget();
        x.report(0, 1, 0);
        x.seed(4711);
        due("rules()", x.rules(), 1);
        due("again()", x.again(), 5);
        NotYetSaid due = everything();
        for (int a = 0; a < 5; a++) {
            for (int what = 0; what <= 6; what++) {
                due("answerOf(" + a + ", " + what + ")", x.answerOf(a, what), due.answerOf(a, what));
            }
        }
        int[] first = {1, 20, 10, 4, 0};
        for (int what = 0; what <= 4; what++) {
            due("answerOf(0, " + what + ")", x.answerOf(0, what), first[what]);
        }
        for (int k = 0; k < 4; k++) {
            due("legOf(" + k + ", 0)", x.legOf(k, 0), due.legOf(k, 0));
            due("legOf(" + k + ", 1)", x.legOf(k, 1), due.legOf(k, 1));
        }
        due("legOf(4, 0)", x.legOf(4, 0), BAD);
        for (int what = 0; what <= 4; what++) {
            due("state(" + what + ")", x.state(what), due.state(what));
        }
        for (int what = 0; what <= 2; what++) {
            due("span(" + what + ")", x.span(what), due.span(what));
        }
        due("many(3)", x.many(3), 2);
        due("z", x.seed(0), -5);
    }

    private static void notKept() {
        says("Promise 48: All but THE TAPE, ROWS, SHEETS, SHELVES, THE TRACE is kept: 1.");
        NotYetSaid x = everything();
        x.keep();
        x.rules();
        feed(x, "abc");
        due("ROWS as they are", x.alterRow(0, 0, 77), 0);
        x.write(0, 0, 88);
        x.sheet(3, 1, 6);
        x.shelf(2, 0, 3);
        x.act(3, 0, 1);
        x.again();
        due("THE TAPE stays", x.many(5), 3);
        due("ROWS stay", x.row(0, 0), 77);
        due("a SHEET's item stays", x.item(0, 0, 0), 88);
        due("a SHEET stays", x.item(3, 1, 5), 0);
        due("a SHELF stays", x.taken(2, 4), 3);
        trace(x, 10);
        says("Promise 48: .. is kept (THE RULES, too)");
        due("many(1)", x.many(1), 2);
        due("a game's HOLDS NOW", x.answerOf(1, 5) - (x.state(3) == 2 ? 5 : 0), 16);
    }

    private static void again() {
        says("Promise 49: It becomes what was kept latest (which stays): how many ANSWERS. NONE: nothing is kept.");
        still(Checks::trip, "again(), nothing is kept", NONE, NotYetSaid::again);
        still(NotYetSaid::new, "again(), nothing is kept", NONE, NotYetSaid::again);
        still(() -> {
            NotYetSaid x = everything();
            x.again();
            return x;
        }, "again() again", 5, NotYetSaid::again);
        still(() -> {
            NotYetSaid x = everything();
            x.keep();
            return x;
        }, "keep() again", 1, NotYetSaid::keep);
        NotYetSaid none = new NotYetSaid();
        none.keep();
        none.answer(1, 1, 0, 1);
        none.leg(5, 1);
        due("again(), a new one was kept", none.again(), 0);
        due("many(0)", none.many(0), 0);
        due("many(2)", none.many(2), 0);
        due("state(4)", none.state(4), 0);
        NotYetSaid nine = full();
        nine.keep();
        nine.remake(8, 1);
        nine.change(8, 1, 1);
        due("again(), nine were kept", nine.again(), 9);
        due("answerOf(8, 0)", nine.answerOf(8, 0), 4);
        due("answerOf(8, 1)", nine.answerOf(8, 1), 18);
        NotYetSaid x = trip();
        x.belief(1);
        x.keep();
        x.belief(2);
        x.keep();
        for (int k = 0; k < 3; k++) {
            x.belief(3);
            x.say(1);
            due("again()", x.again(), 5);
            state(x, 0, 2);
            due("answerOf(1, 4)", x.answerOf(1, 4), 0);
        }
        NotYetSaid y = trip();
        y.keep();
        y.again();
        y.say(0);
        y.change(1, 1, 60);
        y.again();
        state(y, 0, 100);
        due("answerOf(1, 1)", y.answerOf(1, 1), 15);
        NotYetSaid legs = road(5, 2);
        legs.leg(6, 1);
        legs.keep();
        legs.leg(7, 0);
        legs.again();
        due("leg(3, 0) behind it", legs.leg(3, 0), 2);
        due("state(4)", legs.state(4), 14);
        due("legOf(2, 0)", legs.legOf(2, 0), 3);
    }

    public static void main(String[] args) {
        missingAtFirst();
        sheetsWithin();
        writeWithin();
        itemWithin();
        tellAllWithin();
        wouldCostWithin();
        shelvesWithin();
        takenWithin();
        actsWithin();
        partedBy0();
        traces();
        counts();
        kept();
        notKept();
        again();
        end();
    }
}
