/**
 * THE TAPE and THE RULES (part 2, promises 12 and 13): each sentence that names a bound, an edge or a FAULT, with the last
 * value on either side of it; behind a FAULT all but THE TAPE is as it was.
 */
public final class EdgeRulesTests extends Checks {
    private static final String EIGHT = "soon nil;soon nil;soon nil;soon nil;soon nil;soon nil;soon nil;soon nil;";

    private static void reads(String text, int many) {
        NotYetSaid x = everything();
        x.rules();
        due("bytes of '" + text + "'", feed(x, text), text.length());
        due("rules of '" + text + "'", x.rules(), many);
        due("many(1) behind '" + text + "'", x.many(1), many);
        due("many(5) behind '" + text + "'", x.many(5), 0);
    }

    private static void faults(String text, int place) {
        still(Checks::withoutTape, "rules of '" + text + "'", -100 - place, x -> rules(x, text));
    }

    // ---- THE TAPE

    private static void tape() {
        says("Promise 12: n bytes (1 to 8) come to THE TAPE: how many it has. BAD");
        refuses("feed(.., #)", BAD, (x, v) -> x.feed(0x3b6c696e206e6f6fL, v), 0, 9, -1, LEAST, MOST);
        refuses(Checks::full, "feed(.., #), FULL too", BAD, (x, v) -> x.feed(0x3b6c696e206e6f6fL, v), 0, 9);
        NotYetSaid each = new NotYetSaid();
        int bytes = 0;
        for (int n = 1; n <= 8; n++) {
            bytes += n;
            due("feed(.., " + n + ")", each.feed(0x2020202020202020L, n), bytes);
        }
        says("Promise 12: the lowest of eight first");
        NotYetSaid x = new NotYetSaid();
        due("feed(\"game nil\", 8)", x.feed(0x6c696e20656d6167L, 8), 8);
        due("feed(\";\", 1), others above it", x.feed(0xffffffffffffff3bL, 1), 9);
        due("rules()", x.rules(), 1);
        says("Terms: THE TAPE takes bytes, 200 at most; Promise 12: FULL: more than 200.");
        for (int n = 1; n <= 8; n++) {
            int many = n;
            due("feed of " + n + ", 200 then", taped(200 - n).feed(0x2020202020202020L, n), 200);
            still(() -> taped(201 - many), "feed of " + n + ", 201 then", FULL, y -> y.feed(0x2020202020202020L, many));
        }
        still(Checks::full, "feed of 1 to 200", FULL, y -> y.feed(0x20L, 1));
        says("Terms: rules() uses it up.");
        NotYetSaid again = taped(200);
        due("rules()", again.rules(), 0);
        due("many(5)", again.many(5), 0);
        due("feed(.., 8)", again.feed(0x2020202020202020L, 8), 8);
    }

    /** Blanks on THE TAPE. */
    private static NotYetSaid taped(int bytes) {
        NotYetSaid x = trip();
        for (int rest = bytes; rest > 0; rest -= 8) {
            x.feed(0x2020202020202020L, Math.min(rest, 8));
        }
        return x;
    }

    private static void inPlaceOfAll() {
        says("Promise 13: THE TAPE tells THE RULES (in place of all): how many");
        NotYetSaid x = one(99, 10, 0, 9);
        due("two", rules(x, "game more 1;game more 2;"), 2);
        due("by the first", x.answerOf(0, 5), 11);
        due("one", rules(x, "soon more 3;"), 1);
        due("many(1)", x.many(1), 1);
        due("the others are gone", x.answerOf(0, 5), 10);
        rules(x, "game more 4;");
        due("none, by an empty TAPE", x.rules(), 0);
        due("many(1)", x.many(1), 0);
        due("without RULES", x.answerOf(0, 5), 10);
        rules(x, "game more 4;");
        due("none, by blanks", rules(x, "   "), 0);
        due("without RULES", x.answerOf(0, 5), 10);
        says("Promise 13: -100 less its FAULT; Terms: such a call changes nothing (but that THE TAPE is used up by rules())");
        rules(x, "game more 4;");
        due("a FAULT behind a RULE", rules(x, "game more 5;x"), -112);
        due("many(5)", x.many(5), 0);
        due("many(1)", x.many(1), 1);
        due("THE RULES that were", x.answerOf(0, 5), 14);
        faults("game more 5;x", 12);
        still(Checks::everything, "a FAULT on a TAPE", -112, y -> {
            y.feed('x', 1);
            int fault = y.rules();
            feed(y, "song more 7;");
            return fault;
        });
    }

    // ---- RULES

    private static void eightRules() {
        says("Terms: TEXT: { KIND DO ; | KIND if COND DO ; }, 8 RULES at most.");
        reads("", 0);
        reads("soon nil;", 1);
        reads(EIGHT, 8);
        reads(EIGHT + "  ", 8);
        says("Terms: FAULT: .. the first NAME of the ninth RULE, too");
        faults(EIGHT + "soon nil;", 72);
        faults(EIGHT + "   soon nil;", 75);
        faults(EIGHT + "soon", 72);
        faults(EIGHT + "x", 72);
        faults(EIGHT + ";", 72);
        faults(EIGHT + "5", 72);
    }

    private static void kindsAndDeeds() {
        says("Terms: KIND: answer | soon | game | song | biscuit | stop.");
        for (String kind : new String[] {"answer", "soon", "game", "song", "biscuit", "stop"}) {
            reads(kind + " nil;", 1);
            faults(kind + "s nil;", 0);
            faults(kind.substring(0, kind.length() - 1) + " nil;", 0);
            faults("soon " + kind + ";", 5);
        }
        for (String other : new String[] {"if", "more", "less", "nil", "or", "and", "not", "leg", "mood", "told", "belief", "number",
            "ride"}) {
            faults(other + " nil;", 0);
        }
        says("Terms: DO: more N | less N (0 to 99) | nil.");
        for (String deed : new String[] {"more", "less"}) {
            for (String n : new String[] {"0", "00", "000", "0000", "9", "99", "099", "0099"}) {
                reads("soon " + deed + " " + n + ";", 1);
            }
            says("Terms: FAULT: .. N above 99 behind more or less");
            for (String n : new String[] {"100", "0100", "999", "9999"}) {
                faults("soon " + deed + " " + n + ";", 10);
            }
            says("Terms: FAULT: .. a NUMBER of more digits");
            for (String n : new String[] {"00000", "00099", "10000", "99999", "00000000000"}) {
                faults("soon " + deed + " " + n + ";", 10);
            }
            says("Terms: DO: more N | less N (0 to 99) | nil.");
            faults("soon " + deed + ";", 9);
            faults("soon " + deed + " nil;", 10);
            faults("soon " + deed + " leg;", 10);
            faults("soon " + deed + " 5 5;", 12);
            faults("soon " + deed + " 5", 11);
        }
        faults("soon nil 5;", 9);
        faults("soon 5;", 5);
        faults("soon;", 4);
        faults("soon nil nil;", 9);
        faults("soon nil;;", 9);
    }

    private static void namesAndNumbers() {
        says("Terms: NAMES are rows of letters a to z, NUMBERS rows of digits (1 to 4), both as long as they go");
        reads("soon more5;", 1);
        reads("soon if1=1or2=2more5;", 1);
        reads("soon if not 1=1and not 2=2less5;", 1);
        reads("soon if leg=1nil;", 1);
        faults("soonnil;", 0);
        faults("soon nilnil;", 5);
        faults("soon if not1=1 and notnot 1=1 nil;", 19);
        faults("soon if leg=1 ormood=1 nil;", 14);
        faults("soon if legs=1 nil;", 8);
        faults("soon if le=1 nil;", 8);
        faults("noon nil;", 0);
        faults("snon nil;", 0);
        faults("soom nil;", 0);
        faults("soon mil;", 5);
        faults("soon if meg=1 nil;", 8);
        faults("soon if not(1=1 xor 1=1)nil;", 16);
        faults("soon ifleg=1 nil;", 5);
        says("Terms: blanks (32) part them, and stand elsewhere as one likes");
        reads("  soon   if   (   not   leg   <   1   )   nil   ;   ", 1);
        faults("so on nil;", 0);
        faults("soon more 1 0;", 12);
        faults("soon if 1 0=1 nil;", 10);
        faults("soon if le g=1 nil;", 8);
        faults("soon if n ot 1=1 nil;", 8);
    }

    private static void numbersOfConditions() {
        says("Terms: N are NUMBERS 0 to 9999.");
        reads("soon if 0=9999 nil;", 1);
        reads("soon if 0000=0999 nil;", 1);
        says("Terms: FAULT: .. a NUMBER of more digits");
        faults("soon if 10000=1 nil;", 8);
        faults("soon if 1=10000 nil;", 10);
        faults("soon if 00000=1 nil;", 8);
        faults("soon if 1=00001 nil;", 10);
        says("Terms: VALUE: N | leg | mood | told | belief | number      SIGN: < | = | >");
        for (String value : new String[] {"7", "leg", "mood", "told", "belief", "number"}) {
            for (String sign : new String[] {"<", "=", ">"}) {
                reads("soon if " + value + sign + "1 nil;", 1);
                reads("soon if 1" + sign + value + " nil;", 1);
            }
        }
        for (String other : new String[] {"minute", "soon", "nil", "if", "not", "or", "and", "more"}) {
            faults("soon if 1=" + other + " nil;", 10);
            if (!other.equals("not")) {
                faults("soon if " + other + "=1 nil;", 8);
            }
        }
        faults("soon if 1!1 nil;", 9);
        faults("soon if 1==1 nil;", 10);
        faults("soon if 1<=1 nil;", 10);
        faults("soon if 1<>1 nil;", 10);
        faults("soon if 1 nil;", 10);
        faults("soon if =1 nil;", 8);
        faults("soon if 1=1=1 nil;", 11);
        faults("soon if 1=1 2=2 nil;", 12);
    }

    private static void conditionsRead() {
        says("Terms: COND: ALL { or ALL }      ALL: ONE { and ONE }      ONE: { not } ( VALUE SIGN VALUE | \"(\" COND \")\" )");
        reads("soon if 1=1 or 1=1 nil;", 1);
        reads("soon if 1=1 and 1=1 nil;", 1);
        reads("soon if 1=1 and 1=1 or 1=1 and 1=1 or 1=1 nil;", 1);
        reads("soon if not 1=1 nil;", 1);
        reads("soon if not not not not 1=1 nil;", 1);
        reads("soon if not(not 1=1)nil;", 1);
        faults("soon if nil;", 8);
        faults("soon if 1=1 or nil;", 15);
        faults("soon if 1=1 and nil;", 16);
        faults("soon if or 1=1 nil;", 8);
        faults("soon if 1=1 and or 1=1 nil;", 16);
        faults("soon if 1=1 or and 1=1 nil;", 15);
        faults("soon if not nil;", 12);
        faults("soon if 1=1 not 1=1 nil;", 12);
        faults("soon if 1 not=1 nil;", 10);
        faults("soon if 1=not 1 nil;", 10);
        faults("soon if 1=1 if 1=1 nil;", 12);
        faults("soon if () nil;", 9);
        faults("soon if (1=1 nil;", 13);
        faults("soon if (1=1;", 12);
        faults("soon if 1=1) nil;", 11);
        faults("soon if (1=1)) nil;", 13);
        faults("soon if )1=1 nil;", 8);
        faults("soon if (1)=1 nil;", 10);
        faults("soon if (1=1)(1=1) nil;", 13);
        faults("soon if 1=1;", 11);
        says("Terms: At most 3 \"(\" are open within one another.");
        reads("soon if (((1=1)))nil;", 1);
        faults("soon if ((((1=1))))nil;", 11);
        reads("soon if (((1=1)))or(((1=1)))and(((1=1)))nil;", 1);
        faults("soon if (((1=1)))or((((1=1))))nil;", 22);
        reads("soon if ((1=1)or((1=1)and(1=1)))nil;", 1);
        reads("soon if (not(not(not 1=1)))nil;", 1);
        faults("soon if (not(not(not(1=1))))nil;", 20);
        faults("soon if (((1=1)or(1=1)and((1=1))))nil;", 26);
        faults("soon if (((1=1)or((1=1))))nil;", 18);
        reads("soon if (1=1)or(1=1)or(1=1)or(1=1)or(1=1)nil;", 1);
    }

    // ---- FAULT

    private static void everyByte() {
        says("Terms: FAULT: the place (from 0) of the first byte of the first NAME, NUMBER or other byte that can't stand there");
        for (int b = 0; b < 256; b++) {
            String one = String.valueOf((char) b);
            boolean letter = b >= 'a' && b <= 'z';
            boolean digit = b >= '0' && b <= '9';
            NotYetSaid x = new NotYetSaid();
            due("byte " + b + " alone", rules(x, one), b == ' ' ? 0 : -100);
            due("byte " + b + " behind a RULE", rules(x, "soon nil;" + one), b == ' ' ? 1 : -109);
            due("byte " + b + " behind a KIND", rules(x, "soon" + one + "nil;"), b == ' ' ? 1 : letter ? -100 : -104);
            due("byte " + b + " behind an N", rules(x, "soon more 5" + one + ";"),
                    b == ' ' || digit ? 1 : b == ';' ? -112 : -111);
            due("byte " + b + " ahead of an N", rules(x, "soon more " + one + "5;"), b == ' ' || digit ? 1 : -110);
            due("byte " + b + " for a SIGN", rules(x, "soon if leg" + one + "1 nil;"),
                    b == '<' || b == '=' || b == '>' ? 1 : letter ? -108 : b == ' ' ? -112 : -111);
            due("byte " + b + " ahead of a VALUE", rules(x, "soon if 1=" + one + "1 nil;"), b == ' ' || digit ? 1 : -110);
        }
    }

    private static void theEnd() {
        says("Terms: FAULT: .. or the end (how many bytes there are), if more must come.");
        String text = "soon if(leg=1)nil;";
        int[] due = {0, -100, -100, -100, -104, -105, -105, -107, -108, -108, -108, -111, -112, -113, -114, -114, -114, -117, 1};
        for (int length = 0; length <= text.length(); length++) {
            due("the first " + length + " bytes of '" + text + "'", rules(new NotYetSaid(), text.substring(0, length)), due[length]);
        }
        faults("soon", 4);
        faults("soon ", 5);
        faults("soon more", 9);
        faults("soon more 5", 11);
        faults("soon more 5 ", 12);
        faults("soon if", 7);
        faults("soon if not", 11);
        faults("soon if 1=1 and", 15);
        faults("soon if 1=1 or ", 15);
        faults("soon if ((1=1)", 14);
        faults("soon nil;soon nil", 17);
        says("Promise 13: -100 less its FAULT; Terms: THE TAPE takes bytes, 200 at most");
        faults("soon" + " ".repeat(196), 200);
        faults("soon" + " ".repeat(195) + "x", 199);
        faults("soon nil;" + " ".repeat(190) + ";", 199);
        reads("soon nil" + " ".repeat(191) + ";", 1);
        reads(" ".repeat(200), 0);
    }

    // ---- what conditions are

    /** Whether the condition holds for ANSWER 0, a game of 10 minutes (in a jam 15). */
    private static void so(NotYetSaid x, String condition, boolean want) {
        due("rules of '" + condition + "'", rules(x, "answer if " + condition + " more 40;"), 1);
        due("whether '" + condition + "'", x.answerOf(0, 5) >= 50 ? 1 : 0, want ? 1 : 0);
    }

    private static void signs() {
        says("Terms: VALUE SIGN VALUE .. SIGN: < | = | >");
        int[][] pairs = {{0, 0}, {0, 1}, {1, 0}, {9998, 9999}, {9999, 9999}, {9999, 9998}, {0, 9999}, {99, 100}};
        for (int[] p : pairs) {
            so(one(20, 10, 0, 9), p[0] + "<" + p[1], p[0] < p[1]);
            so(one(20, 10, 0, 9), p[0] + "=" + p[1], p[0] == p[1]);
            so(one(20, 10, 0, 9), p[0] + ">" + p[1], p[0] > p[1]);
        }
        so(one(20, 10, 0, 9), "0007=7", true);
        so(one(20, 10, 0, 9), "1000=0001", false);
    }

    private static void partsOfConditions() {
        says("Terms: COND: ALL { or ALL }      ALL: ONE { and ONE }      ONE: { not } ..");
        for (int bits = 0; bits < 8; bits++) {
            boolean a = (bits & 1) != 0;
            boolean b = (bits & 2) != 0;
            boolean c = (bits & 4) != 0;
            String p = a ? "1=1" : "1=2";
            String q = b ? "2=2" : "2=1";
            String r = c ? "3=3" : "3=2";
            NotYetSaid x = one(20, 10, 0, 9);
            so(x, p + " or " + q + " and " + r, a || b && c);
            so(x, p + " and " + q + " or " + r, a && b || c);
            so(x, "(" + p + " or " + q + ") and " + r, (a || b) && c);
            so(x, p + " and (" + q + " or " + r + ")", a && (b || c));
            so(x, p + " or " + q + " or " + r, a || b || c);
            so(x, p + " and " + q + " and " + r, a && b && c);
            so(x, "not " + p + " and " + q, !a && b);
            so(x, "not " + p + " or " + q, !a || b);
            so(x, "not (" + p + " and " + q + ")", !(a && b));
            so(x, "not (" + p + " or " + q + ") or " + r, !(a || b) || c);
            so(x, p + " and not " + q + " or not " + r, a && !b || !c);
            so(x, "not not " + p, a);
            so(x, "not not not " + p, !a);
            so(x, "not (not (not " + p + " or " + q + ") and " + r + ")", !(!(!a || b) && c));
            so(x, p + " or (" + q + " and (" + r + " or (" + p + " and " + q + ")))", a || b && (c || a && b));
            so(x, p + " and (" + q + " or (" + r + " and (" + p + " or " + q + ")))", a && (b || c && (a || b)));
        }
    }

    /** THE TAPE is full, or as near to it as can be. */
    private static void longest() {
        says("Terms: THE TAPE takes bytes, 200 at most");
        for (int last = 1; last <= 2; last++) {
            NotYetSaid x = one(20, 10, 0, 9);
            due("37 or", rules(x, "game if" + "1=2or".repeat(37) + "1=" + last + "nil;"), 1);
            due("whether the last one is", x.answerOf(0, 5), last == 1 ? 1 : 10);
            due("30 and", rules(x, "game if" + "1=1and".repeat(30) + "1=" + last + " nil;"), 1);
            due("whether the last one is", x.answerOf(0, 5), last == 1 ? 1 : 10);
            due("18 not", rules(x, "game if not 1=2" + "and not1=2".repeat(17) + "or1=" + last + "nil;"), 1);
            due("whether one is", x.answerOf(0, 5), 1);
            due("not and not", rules(x, "game if " + "not ".repeat(44 + last) + "1=1nil;"), 1);
            due("whether the nots are even", x.answerOf(0, 5), last == 2 ? 1 : 10);
        }
    }

    private static NotYetSaid behind(int minutes) {
        NotYetSaid x = road(10, 0);
        x.leg(10, 1);
        x.leg(10, 2);
        x.answer(2, 10, 0, 9);
        x.change(0, 1, Math.max(minutes, 1));
        if (minutes > 0) {
            x.say(0);
        }
        x.change(0, 1, 10);
        return x;
    }

    private static void facts() {
        says("Terms: FACTS: number of the LEG now, its MOOD");
        int[][] legs = {{0, 0, 0}, {9, 0, 0}, {10, 1, 1}, {19, 1, 1}, {20, 2, 2}, {29, 2, 2}, {30, 3, 0}};
        for (int[] l : legs) {
            for (int k = 0; k <= 4; k++) {
                so(behind(l[0]), "leg=" + k, l[1] == k);
                so(behind(l[0]), k + "=mood", l[2] == k);
                so(behind(l[0]), k + "=leg", l[1] == k);
                so(behind(l[0]), "leg<" + k, l[1] < k);
                so(behind(l[0]), "mood>" + k, l[2] > k);
            }
        }
        NotYetSaid none = new NotYetSaid();
        none.answer(2, 10, 0, 9);
        so(none, "leg=0 and mood=0", true);
        says("Terms: FACTS: .. TOLD of the ANSWER");
        for (int told = 0; told <= 9; told++) {
            NotYetSaid x = one(99, 1, 0, 9);
            for (int k = 0; k < told; k++) {
                x.say(0);
            }
            x.change(0, 1, 10);
            so(x, "told=" + told, true);
            so(x, "told<" + told, false);
            so(x, "told<" + (told + 1), true);
            so(x, "told>" + told, false);
        }
        says("Terms: FACTS: .. BELIEF");
        for (int belief : new int[] {0, 1, 50, 99, 100}) {
            NotYetSaid x = one(99, 10, 0, 9);
            x.belief(belief);
            so(x, "belief=" + belief, true);
            so(x, "belief>" + belief, false);
            so(x, belief + ">belief", false);
            so(x, "belief<" + (belief + 1), true);
        }
        says("Terms: FACTS: .. the ANSWER's number");
        NotYetSaid nine = road(99, 0);
        for (int a = 0; a < 9; a++) {
            nine.answer(2, 10, 0, 9);
        }
        for (int a = 0; a < 9; a++) {
            rules(nine, "answer if number=" + a + " more 40;");
            for (int other = 0; other < 9; other++) {
                due("number=" + a + " of " + other, nine.answerOf(other, 5), a == other ? 50 : 10);
            }
        }
    }

    public static void main(String[] args) {
        tape();
        inPlaceOfAll();
        eightRules();
        kindsAndDeeds();
        namesAndNumbers();
        numbersOfConditions();
        conditionsRead();
        everyByte();
        theEnd();
        signs();
        partsOfConditions();
        longest();
        facts();
        end();
    }
}
