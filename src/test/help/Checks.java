import java.util.ArrayList;
import java.util.List;
import java.util.function.Supplier;

/** What the tests share: answers beside those that are due, rides to ask of, and all that can be seen of one. */
class Checks {
    static final int BAD = -1, FULL = -2, NONE = -3, STATE = -4, NO_ROW = -9;
    static final int MISSING = -11, OUTSIDE = -12, OTHER_SORT = -13, BELOW_0 = -14, PARTED_BY_0 = -15;
    static final int LEAST = Integer.MIN_VALUE, MOST = Integer.MAX_VALUE;

    interface Call {
        int of(NotYetSaid x);
    }

    interface CallWith {
        int of(NotYetSaid x, int v);
    }

    private static String sentence = "";
    private static int wrong;
    private static int checks;

    /** What the document says of the checks that follow. */
    static void says(String told) {
        sentence = told;
    }

    static void due(String call, int got, int want) {
        checks++;
        if (got != want) {
            wrong++;
            System.out.println(sentence + "\n    " + call + " answered " + got + ", due is " + want);
        }
    }

    /** The last call of each main. */
    static void end() {
        System.out.println(wrong == 0 ? checks + " answers are as due" : wrong + " answers are not as due");
        if (wrong != 0) {
            System.exit(1);
        }
    }

    // ---- what changes nothing

    /** The answer is due, and behind the call all is as it is on an object that wasn't asked. */
    static void still(Supplier<NotYetSaid> made, String call, int want, Call asked) {
        NotYetSaid x = made.get();
        due(call, asked.of(x), want);
        List<String> got = look(x);
        List<String> due = look(made.get());
        checks++;
        if (!got.equals(due)) {
            wrong++;
            int k = 0;
            while (k < Math.min(got.size(), due.size()) && got.get(k).equals(due.get(k))) {
                k++;
            }
            System.out.println(sentence + "\n    behind " + call + " not all is as it was: " + got.subList(k, got.size())
                    + ", it was " + due.subList(k, due.size()));
        }
    }

    /** Each of the values (# in the call) is refused by an object that has something of everything. */
    static void refuses(String call, int want, CallWith asked, int... values) {
        refuses(Checks::everything, call, want, asked, values);
    }

    static void refuses(Supplier<NotYetSaid> made, String call, int want, CallWith asked, int... values) {
        for (int v : values) {
            still(made, call.replace("#", Integer.toString(v)), want, x -> asked.of(x, v));
        }
    }

    /** All that can be seen: the ride, the host, what THE TAPE tells, and what is kept. */
    private static List<String> look(NotYetSaid x) {
        List<String> seen = new ArrayList<>();
        lookAtRide(x, seen);
        lookAtHost(x, seen);
        seen.add("rules() " + x.rules());
        for (int a = 0; a < x.many(0); a++) {
            seen.add("holds now by the tape " + a + " " + x.answerOf(a, 5));
        }
        seen.add("again() " + x.again());
        lookAtRide(x, seen);
        return seen;
    }

    private static void lookAtRide(NotYetSaid x, List<String> seen) {
        for (int what = 0; what <= 6; what++) {
            seen.add("many " + what + " " + x.many(what));
        }
        for (int what = 0; what <= 4; what++) {
            seen.add("state " + what + " " + x.state(what));
        }
        for (int a = 0; a < x.many(0); a++) {
            for (int what = 0; what <= 6; what++) {
                seen.add("answerOf " + a + " " + what + " " + x.answerOf(a, what));
            }
        }
        for (int k = 0; k < x.many(2); k++) {
            seen.add("legOf " + k + " " + x.legOf(k, 0) + " " + x.legOf(k, 1));
        }
        seen.add("span " + x.span(0) + " " + x.span(1) + " " + x.span(2) + ", liar " + x.liar());
        int z = x.seed(0);
        x.seed(z);
        seen.add("z " + z);
    }

    private static void lookAtHost(NotYetSaid x, List<String> seen) {
        for (int k = 0; k < x.many(4); k++) {
            seen.add("row " + k + " " + x.row(k, 0) + " " + x.row(k, 1) + " " + x.row(k, 2));
        }
        for (int i = 0; i < x.many(6); i++) {
            seen.add("trace " + i + " " + x.trace(i));
        }
        for (int sheet = 0; sheet <= 3; sheet++) {
            int sort = 0;
            while (sort < 4 && x.item(sheet, sort, 0) == OTHER_SORT) {
                sort++;
            }
            seen.add("sheet " + sheet + " is of " + sort);
            int item = 0;
            for (int i = 0; item > MISSING && i <= 40; i++) {
                item = x.item(sheet, sort, i);
                seen.add("item " + sheet + " " + i + " " + item);
            }
        }
        for (int shelf = 0; shelf <= 3; shelf++) {
            for (int as = 0; as <= 14; as = as == 5 ? 10 : as + 1) {
                seen.add("taken " + shelf + " " + as + " " + x.taken(shelf, as));
            }
        }
    }

    // ---- rides

    static int feed(NotYetSaid x, String text) {
        int bytes = 0;
        for (int from = 0; from < text.length(); from += 8) {
            int n = Math.min(8, text.length() - from);
            long eight = 0;
            for (int k = n - 1; k >= 0; k--) {
                eight = eight << 8 | text.charAt(from + k);
            }
            bytes = x.feed(eight, n);
        }
        return bytes;
    }

    static int rules(NotYetSaid x, String text) {
        feed(x, text);
        return x.rules();
    }

    /** One ANSWER of each KIND on three LEGS, one of each MOOD; THE END is 65. */
    static NotYetSaid trip() {
        NotYetSaid x = new NotYetSaid();
        x.answer(1, 20, 10, 4);
        x.answer(2, 15, 0, 2);
        x.answer(3, 12, 5, 3);
        x.answer(4, 10, 3, 5);
        x.answer(5, 8, 20, 2);
        x.leg(20, 0);
        x.leg(15, 1);
        x.leg(30, 2);
        return x;
    }

    /** A ride of one LEG without any ANSWER. */
    static NotYetSaid road(int minutes, int mood) {
        NotYetSaid x = new NotYetSaid();
        x.leg(minutes, mood);
        return x;
    }

    /** So many plain minutes, and one ANSWER, a game. */
    static NotYetSaid one(int minutes, int holds, int costs, int left) {
        NotYetSaid x = road(minutes, 0);
        x.answer(2, holds, costs, left);
        return x;
    }

    /** Something of everything, and something else is kept: what changes by a call that should change nothing is seen. */
    static NotYetSaid everything() {
        NotYetSaid x = withoutTape();
        feed(x, "song more 7;");
        return x;
    }

    /** Something of everything but THE TAPE. */
    static NotYetSaid withoutTape() {
        NotYetSaid x = trip();
        rules(x, "soon more 2;");
        x.report(10, 40, 1);
        x.seed(77);
        x.say(3);
        x.keep();
        x.leg(9, 1);
        x.change(2, 1, 13);
        x.report(100, 145, 0);
        x.seed(-5);
        rules(x, "game more 1;answer if told=9 nil;");
        x.prove();
        x.say(1);
        bytes(x, 0, 1, 2, 9);
        x.sheet(1, 3, 2);
        x.write(1, 1, 1234567);
        x.sheet(2, 4, 2);
        x.write(2, 0, 1);
        x.shelf(0, 0, 2);
        x.shelf(1, 1, 0);
        x.shelf(3, 0, 4);
        x.act(0, 3, 9);
        return x;
    }

    /** Something of everything, but at MINUTE 0, with BELIEF 100, and each TOLD 0. */
    static NotYetSaid notBegun() {
        NotYetSaid x = trip();
        x.seed(-7);
        x.report(10, 40, 1);
        x.keep();
        rules(x, "game more 1;");
        x.report(100, 145, 0);
        x.prove();
        bytes(x, 3, 4, 2);
        x.shelf(1, 0, 2);
        x.act(1, 3, 9);
        feed(x, "song more 7;");
        return x;
    }

    /** Something of everything, and as many ANSWERS, LEGS, REPORTS and bytes on THE TAPE as there can be. */
    static NotYetSaid full() {
        NotYetSaid x = everything();
        for (int a = 5; a < 9; a++) {
            x.answer(1 + a % 5, 10 + a, a, a);
        }
        for (int k = 4; k < 8; k++) {
            x.leg(10 + k, k % 3);
        }
        for (int r = 2; r < 6; r++) {
            x.report(0, 30 + r, 1);
        }
        x.feed(0x20202020L, 4);
        for (int k = 16; k < 200; k += 8) {
            x.feed(0x2020202020202020L, 8);
        }
        return x;
    }

    static void bytes(NotYetSaid x, int sheet, int... items) {
        x.sheet(sheet, 0, items.length);
        for (int i = 0; i < items.length; i++) {
            x.write(sheet, i, items[i]);
        }
    }

    static void state(NotYetSaid x, int minute, int belief) {
        due("state(0)", x.state(0), minute);
        due("state(1)", x.state(1), belief);
    }

    static void trace(NotYetSaid x, int... bodies) {
        due("many(6)", x.many(6), bodies.length);
        for (int i = 0; i < bodies.length; i++) {
            due("trace(" + i + ")", x.trace(i), bodies[i]);
        }
        due("trace behind the last", x.trace(bodies.length), NONE);
    }
}
