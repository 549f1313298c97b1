import java.util.NoSuchElementException;

/** The promises of the document by their numbers: ordinary inputs, the edges that it names, wrong inputs. */
public final class UnaskedNamePromises {
    private static final int NONE = UnaskedName.NONE;
    private static final int INDEX = -101;
    private static final int ARGUMENT = -102;
    private static final int STATE = -103;
    private static final int ELEMENT = -104;
    private static final int UNSUPPORTED = -105;

    private static int wrong = 0;
    private static int asked = 0;

    private interface Call { int go(); }

    /** What a call answers, or a number for the exception that it throws; another exception is told as itself. */
    private static void due(int promise, String what, int want, Call call) {
        int got;
        asked++;
        try {
            got = call.go();
        } catch (IndexOutOfBoundsException e) {
            got = e.getClass() == IndexOutOfBoundsException.class ? INDEX : -999;
        } catch (IllegalArgumentException e) {
            got = ARGUMENT;
        } catch (IllegalStateException e) {
            got = STATE;
        } catch (NoSuchElementException e) {
            got = ELEMENT;
        } catch (UnsupportedOperationException e) {
            got = UNSUPPORTED;
        }
        if (got != want) {
            wrong++;
            System.out.println("promise " + promise + ": " + what + " answered " + got + ", due is " + want);
        }
    }

    private static int n(boolean b) { return b ? 1 : 0; }

    private static void tape(UnaskedName x, String text) {
        for (int i = 0; i < text.length(); i += 20) {
            int[] a = new int[5];
            for (int k = 0; k < 20 && i + k < text.length(); k++) {
                a[k / 4] |= text.charAt(i + k) << 24 - 8 * (k % 4);
            }
            x.feed(a[0], a[1], a[2], a[3], a[4]);
        }
        x.end(text.length());
    }

    private static int story(UnaskedName x, String text) { tape(x, text); return x.story(); }
    private static int law(UnaskedName x, String text) { tape(x, text); return x.law(); }

    private static UnaskedName told(String... texts) {
        UnaskedName x = new UnaskedName();
        for (String t : texts) story(x, t);
        return x;
    }

    private static void storyFault(String text, int where) { storyFault(new UnaskedName(), text, where); }

    private static void storyFault(UnaskedName x, String text, int where) {
        due(4, "story '" + text + "'", ARGUMENT, () -> story(x, text));
        due(6, "fault of story '" + text + "'", where, x::fault);
    }

    private static void lawFault(String text, int where) {
        UnaskedName x = new UnaskedName();
        due(5, "law '" + text + "'", ARGUMENT, () -> law(x, text));
        due(6, "fault of law '" + text + "'", where, x::fault);
    }

    /** What a word 0 of 10 stings by under one more law line, as 1 if the condition holds. */
    private static void holds(String condition, boolean want, String... more) {
        UnaskedName x = told("word 10;word 10 of a;word 10 of b;friend 0;enemy 1;deed 3 costs 1", "name a credit 1;name ac credit 1;name b credit 1");
        for (String t : more) story(x, t);
        due(5, "law of '" + condition + "'", 1, () -> law(x, "sting 1 if " + condition));
        due(11, "stings by '" + condition + "'", want ? 11 : 10, () -> x.stings(1, 1));
    }

    private static String times(String line, int n) {
        StringBuilder t = new StringBuilder(line);
        for (int i = 1; i < n; i++) t.append(';').append(line);
        return t.toString();
    }

    private static void p1() {
        int[] first = {0, 0, 0, 0, 0, 0, NONE, 0, 50, 0, 365, NONE, 0, 0, 50, 0, 365, 0, 0, NONE};
        UnaskedName x = new UnaskedName();
        for (int i = 0; i < first.length; i++) {
            int what = i;
            due(1, "count(" + what + ")", first[what], () -> x.count(what));
        }
        due(1, "count(-1)", NONE, () -> x.count(-1));
        due(1, "fault()", NONE, x::fault);
        due(1, "undo()", 0, () -> n(x.undo()));
        due(1, "back()", 0, () -> n(x.back()));
        due(1, "seed(1)", 1, () -> x.seed(1));
        due(1, "NONE", -1, () -> UnaskedName.NONE);
    }

    private static void p2to3() {
        UnaskedName x = new UnaskedName();
        due(3, "end(0)", 1, () -> n(x.end(0)));
        due(3, "end(1)", 0, () -> n(x.end(1)));
        due(3, "end(-1)", 0, () -> n(x.end(-1)));
        for (int i = 1; i <= 20; i++) {
            int k = i;
            due(2, "feed " + k, 20 * k, () -> x.feed(0, 0, 0, 0, 0));
        }
        due(2, "feed 21", NONE, () -> x.feed(0, 0, 0, 0, 0));
        due(3, "end(401)", 0, () -> n(x.end(401)));
        due(3, "end(400)", 1, () -> n(x.end(400)));
        due(3, "end(381)", 1, () -> n(x.end(381)));
        due(2, "feed at 381", NONE, () -> x.feed(0, 0, 0, 0, 0));
        due(3, "end(380)", 1, () -> n(x.end(380)));
        due(2, "feed at 380", 400, () -> x.feed(0, 0, 0, 0, 0));
        due(3, "end(MIN)", 0, () -> n(x.end(Integer.MIN_VALUE)));
        UnaskedName y = new UnaskedName();
        y.feed(0x74616c6b, 0x20373b79, 0x65617220, 0x39202020, 0x20202020);
        due(2, "the highest byte comes first", 1, y::story);
        due(2, "talk", 7, () -> y.count(14));
        due(2, "year", 9, () -> y.count(10));
        due(4, "the tape is used up", 0, () -> n(y.end(1)));
        y.feed(0x78000000, 0, 0, 0, 0);
        due(4, "a wrong text", ARGUMENT, y::story);
        due(4, "a wrong text uses the tape up", 20, () -> y.feed(0x20202020, 0x20202020, 0x20202020, 0x20202020, 0x20202020));
        due(5, "blanks alone are a law of no line", 0, y::law);
        due(54, "count(6) with a law of no line", 0, () -> y.count(6));
    }

    private static void p4() {
        UnaskedName x = new UnaskedName();
        due(4, "an empty text", 1, () -> story(x, ""));
        due(4, "blanks", 2, () -> story(x, "    "));
        due(4, "blanks between", 3, () -> story(x, "  name  fa   credit 09 ;  word 020of b;deed0costs 9  ;friend000  "));
        due(7, "traits", 33, () -> x.name(0, 0));
        due(7, "credit", 9, () -> x.name(0, 1));
        due(9, "sting", 20, () -> x.word(0, false));
        due(9, "trait", 1, () -> x.word(0, true));
        due(10, "soothes", 0, () -> x.deed(0, 0));
        due(10, "costs", 9, () -> x.deed(0, 1));
        due(8, "side", 0, () -> x.court(0, 0));
        due(4, "settings", 4, () -> story(x, "limit 99;year 400;talk 100;doubt 99;his 0"));
        due(54, "limit", 99, () -> x.count(8));
        due(54, "year", 400, () -> x.count(10));
        due(54, "talk", 100, () -> x.count(14));
        due(54, "doubt", 99, () -> x.count(7));
        due(54, "not asked by a text", 0, () -> x.count(13));
        due(4, "lowest settings", 5, () -> story(x, "limit 1;year 1;talk 0;doubt 0"));
        due(4, "14 lines", 6, () -> story(x, times("talk 1", 14)));
        for (int i = 7; i <= 12; i++) {
            int k = i;
            due(4, "text " + k, k, () -> story(x, ""));
        }
        due(4, "text 13, wrong", ARGUMENT, () -> story(x, "talk"));
        due(6, "fault of it", 4, x::fault);
        due(4, "text 13, right", UNSUPPORTED, () -> story(x, "talk 9"));
        due(6, "no fault in it", NONE, x::fault);
        due(4, "nothing of it stays", 1, () -> x.count(14));
        due(4, "the tape is used up by it", 0, () -> n(x.end(1)));
        storyFault(" ;", 1);
        storyFault("talk 1;;talk 1", 7);
        storyFault("talk 1 ; ", 9);
        storyFault("talk 1 talk 1", 7);
        storyFault("talk  ", 6);
        storyFault("talk 0001", 5);
        storyFault("talk 1x", 6);
        storyFault("Talk 1", 0);
        storyFault("talks 1", 0);
        storyFault("talk\t1", 4);
        storyFault("name abcdefa credit 1", 5);
        storyFault("name a b credit 1", 7);
        storyFault("name a credit", 13);
        storyFault("name 1 credit 1", 5);
        storyFault("name a credits 1", 7);
        storyFault("nameab credit 1", 0);
        storyFault("word 1 of", 9);
        storyFault("word 1 off a", 7);
        storyFault("word 1 of g", 10);
        storyFault("word 1 of 1", 10);
        storyFault("talkz 1", 0);
        storyFault("word 1 of a b", 12);
        storyFault("word of a", 5);
        storyFault("deed 21 costs 1", 5);
        storyFault("deed 1", 6);
        storyFault("deed 1 cost 1", 7);
        storyFault("word 1;friend 1", 14);
        storyFault("word 1;enemy 0000", 13);
        storyFault("word 1;friend x", 14);
        storyFault("name a credit 1;his 1", 20);
        storyFault("duty g", 5);
        storyFault("duty abb", 5);
        storyFault("duty a;duty", 11);
        storyFault("doubt -1", 6);
        storyFault(times("talk 1", 14) + ";", 98);
        storyFault(times("talk 1", 14) + " ;  swan", 101);
        UnaskedName y = told(times("name a credit 1", 10), times("word 1", 6) + ";" + times("friend 0", 6), times("deed 1 costs 1", 4), times("duty a", 8));
        storyFault(y, "talk 3; name a credit 1", 8);
        storyFault(y, "word 1", 0);
        storyFault(y, "friend 0", 0);
        storyFault(y, " enemy 0", 1);
        storyFault(y, "deed", 0);
        storyFault(y, "duty", 0);
        due(4, "of a wrong text nothing stays", 50, () -> y.count(14));
        due(4, "texts", 4, () -> y.count(5));
        UnaskedName z = told("name ab credit 1;name b credit 2;name a credit 3", "his 1");
        due(16, "his by a text", 1, () -> z.count(11));
        due(17, "crumb", 1, () -> z.crumb(0));
        due(54, "possible", 2, () -> z.count(12));
        story(z, "name c credit 1");
        due(4, "a name is possible as it is told", 10, () -> z.count(12));
        story(z, "his 2");
        due(4, "his that is not possible: all are again", 15, () -> z.count(12));
        z.crumb(0);
        story(z, "his 2");
        due(4, "his that is possible: nothing else", 5, () -> z.count(12));
    }

    private static void p5() {
        UnaskedName x = told("word 5;friend 0;deed 2 costs 1");
        due(54, "no law", NONE, () -> x.count(6));
        due(5, "law", 3, () -> law(x, "sting 20;blunt 3 ; soothe 04"));
        due(54, "lines", 3, () -> x.count(6));
        due(11, "stings", 22, () -> x.stings(0, 0));
        due(10, "eases", 6, () -> x.deed(0, 2));
        due(10, "soothes stays", 2, () -> x.deed(0, 0));
        due(5, "in place of the one before", 1, () -> law(x, "blunt 20"));
        due(11, "0 at least", 0, () -> x.stings(0, 0));
        due(5, "a wrong one", ARGUMENT, () -> law(x, "sting 1;sting"));
        due(54, "the old one stays", 1, () -> x.count(6));
        due(5, "12 lines", 12, () -> law(x, times("sting 1", 12)));
        due(11, "all of them", 17, () -> x.stings(0, 0));
        due(5, "an empty one", 0, () -> law(x, ""));
        due(11, "none of them", 5, () -> x.stings(0, 0));
        lawFault(times("sting 1", 13), 96);
        lawFault(times("sting 1", 12) + ";", 96);
        lawFault("string 1", 0);
        lawFault("sting 1 if", 10);
        lawFault("sting 1 if ;", 11);
        lawFault("sting 1 iff true", 8);
        lawFault("sting 1 if false", 11);
        lawFault("sting 1 if true true", 16);
        lawFault("sting 1 if true and", 19);
        lawFault("sting 1 if true or ;", 19);
        lawFault("sting 1 if doubt", 16);
        lawFault("sting 1 if doubt <", 18);
        lawFault("sting 1 if doubt = 1", 17);
        lawFault("sting 1 if doubt < 1 < 2", 21);
        lawFault("sting 1 if doubt +", 18);
        lawFault("sting 1 if doubt + < 2", 19);
        lawFault("sting 1 if 1000 < 2", 11);
        lawFault("sting 1 if 2 < 0001", 15);
        lawFault("sting 1 if true < 2", 16);
        lawFault("sting 1 if 2 < sure", 15);
        lawFault("sting 1 if (true", 16);
        lawFault("sting 1 if (true;", 16);
        lawFault("sting 1 if true)", 15);
        lawFault("sting 1 if (1) < 2", 13);
        lawFault("sting 1 if ()", 12);
        lawFault("sting 1 if not", 14);
        lawFault("sting 1 if not not not not not not not true", 35);
        lawFault("sting 1 if (((((((true)))))))", 17);
        lawFault("sting 1 if (not(not(true and not true", 37);
        lawFault("sting 1 if (not(not(not (true", 24);
        holds("true", true);
        holds("not true", false);
        holds("sure", false);
        holds("word < 2", true);
        holds("word > 0", true);
        holds("who > 0", true);
        holds("deed > 0", false);
        holds("1 > 1", false);
        holds("1 < 1", false);
        holds("left > 2", true);
        holds("left < 4 and not left < 3", true);
        holds("1 + 2 + 3 > 5", true);
        holds("5 < 1 + 2 + 3", true);
        holds("5 > 1 + 2 + 3", false);
        holds("doubt + night + left + word + who < 6", true);
        holds("doubt > 6", true, "doubt 7");
        holds("sure or true and sure", false);
        holds("true or true and sure", true);
        holds("(true or true) and sure", false);
        holds("sure and true or true", true);
        holds("sure and (true or true)", false);
        holds("not sure and true", true);
        holds("not (sure and true)", true);
        holds("not not true and not (sure or sure)", true);
        holds("not (true or sure) or not true", false);
        holds("not not not not not not true", true);
        holds("((((((true))))))", true);
        holds("not(not(not(true)))", false);
        holds("sure or sure or sure or true", true);
        holds("true and true and sure and true", false);
        holds("999 > 998", true);
        UnaskedName l = told("word 5;friend 0");
        StringBuilder longest = new StringBuilder("sting 1 if2<1");
        for (int i = 0; i < 76; i++) longest.append("or2<1");
        due(5, "a law as long as the tape", 1, () -> law(l, longest + "or1<2  "));
        due(11, "its last part holds", 6, () -> l.stings(0, 0));
        UnaskedName y = told("word 5;word 5 of a;word 5 of b;friend 0;friend 1;deed 2 costs 1;deed 2 costs 1;name a credit 1");
        law(y, "soothe 3 if true;soothe 5 if deed > 0;soothe 7 if who + word > 0;soothe 1 if sure;sting 1 if true;sting 2 if sure;sting 4 if word > 1;sting 8 if who > 0");
        due(10, "eases 0", 3, () -> y.deed(0, 2));
        due(10, "eases 1", 8, () -> y.deed(1, 2));
        due(11, "stings 0 0", 7, () -> y.stings(0, 0));
        due(11, "stings 0 1", 8, () -> y.stings(0, 1));
        due(11, "stings 0 2", 11, () -> y.stings(0, 2));
        due(11, "stings 1 1", 16, () -> y.stings(1, 1));
    }

    private static UnaskedName court() {
        return told("name ab credit 2;name ac credit 3;name bc credit 1;name d credit 4;word 5;word 8 of a;word 3 of b",
            "deed 6 costs 2;deed 10 costs 5;friend 2;enemy 0;enemy 1;limit 30");
    }

    private static void p7to11() {
        UnaskedName x = court();
        due(7, "name(-1, 0)", INDEX, () -> x.name(-1, 0));
        due(7, "name(4, 9)", INDEX, () -> x.name(4, 9));
        due(7, "name(0, 4)", ELEMENT, () -> x.name(0, 4));
        due(7, "name(0, -1)", ELEMENT, () -> x.name(0, -1));
        due(7, "possible", 1, () -> x.name(3, 2));
        due(7, "belief", 1000, () -> x.name(2, 3));
        x.crumb(0);
        due(7, "not possible", 0, () -> x.name(3, 2));
        due(7, "no belief", 0, () -> x.name(3, 3));
        due(7, "belief of two", 4000, () -> x.name(0, 3));
        due(8, "court(3, 0)", INDEX, () -> x.court(3, 0));
        due(8, "court(-1, 7)", INDEX, () -> x.court(-1, 7));
        due(8, "court(0, 3)", ELEMENT, () -> x.court(0, 3));
        due(8, "court(0, -1)", ELEMENT, () -> x.court(0, -1));
        due(8, "side", 1, () -> x.court(1, 0));
        due(8, "habit", 2, () -> x.court(0, 1));
        due(8, "near", 1, () -> x.court(0, 2));
        due(9, "word(3, false)", INDEX, () -> x.word(3, false));
        due(9, "word(-1, true)", INDEX, () -> x.word(-1, true));
        due(9, "word(0, true)", NONE, () -> x.word(0, true));
        due(9, "word(2, true)", 1, () -> x.word(2, true));
        due(9, "word(2, false)", 3, () -> x.word(2, false));
        due(10, "deed(2, 0)", INDEX, () -> x.deed(2, 0));
        due(10, "deed(-1, 5)", INDEX, () -> x.deed(-1, 5));
        due(10, "deed(0, 3)", ELEMENT, () -> x.deed(0, 3));
        due(10, "deed(0, -1)", ELEMENT, () -> x.deed(0, -1));
        due(10, "deed(1, 0)", 10, () -> x.deed(1, 0));
        due(11, "stings(3, 0)", INDEX, () -> x.stings(3, 0));
        due(11, "stings(0, 3)", INDEX, () -> x.stings(0, 3));
        due(11, "stings(0, -1)", INDEX, () -> x.stings(0, -1));
        x.keep(0, false);
        due(11, "stings of one who is away", 8, () -> x.stings(0, 1));
    }

    private static void p12to13() {
        UnaskedName x = court();
        due(12, "say(3, 0)", INDEX, () -> x.say(3, 0));
        due(12, "say(0, 3)", INDEX, () -> x.say(0, 3));
        due(12, "say(0, -1)", INDEX, () -> x.say(0, -1));
        due(12, "say(0, 1)", 8, () -> x.say(0, 1));
        due(12, "those with a stay", 3, () -> x.count(12));
        x.his(2);
        due(12, "say(0, 1)", 16, () -> x.say(0, 1));
        due(12, "those without a stay", 12, () -> x.count(12));
        x.keep(2, false);
        due(12, "kept away", STATE, () -> x.say(2, 0));
        due(12, "kept away, no word", INDEX, () -> x.say(2, 9));
        due(13, "does(2)", INDEX, () -> x.does(2));
        due(13, "does(-1)", INDEX, () -> x.does(-1));
        due(13, "does(0)", 10, () -> x.does(0));
        due(13, "does(1)", 0, () -> x.does(1));
        due(13, "0 at least", 0, () -> x.does(1));
        for (int i = 0; i < 5; i++) x.say(0, 0);
        due(12, "not yet", 0, () -> x.count(13));
        due(12, "the limit", 30, () -> x.say(0, 0));
        due(12, "she asked", 1, () -> x.count(13));
        due(12, "gone", STATE, () -> x.say(0, 0));
        due(12, "gone, nobody", INDEX, () -> x.say(9, 0));
        due(13, "gone", STATE, () -> x.does(0));
        due(13, "gone, no deed", INDEX, () -> x.does(2));
        UnaskedName y = told("word 20;word 0;friend 0;limit 99;doubt 90");
        due(12, "99 at most", 99, () -> y.say(0, 0));
        UnaskedName z = told("word 0;friend 0;limit 10;doubt 50");
        due(12, "doubt by a text does not ask", 0, () -> z.count(13));
        due(12, "a word of no sting", 50, () -> z.say(0, 0));
        due(12, "asks", 1, () -> z.count(13));
        UnaskedName w = told("word 4 of a;friend 0;name a credit 1;name b credit 1");
        law(w, "sting 1 if sure;sting 2 if doubt > 4;sting 4 if left > 1");
        due(12, "the law looks ahead of the word", 8, () -> w.say(0, 0));
        due(12, "and again", 15, () -> w.say(0, 0));
    }

    private static void p14to18() {
        UnaskedName x = court();
        due(14, "keep(3, true)", INDEX, () -> n(x.keep(3, true)));
        due(14, "keep(-1, true)", INDEX, () -> n(x.keep(-1, true)));
        due(14, "near already", 0, () -> n(x.keep(1, true)));
        due(14, "away", 1, () -> n(x.keep(1, false)));
        due(14, "as bits", 5, () -> x.count(15));
        due(14, "away already", 0, () -> n(x.keep(1, false)));
        due(14, "near again", 1, () -> n(x.keep(1, true)));
        due(15, "habit(3, 0)", INDEX, () -> x.habit(3, 0));
        due(15, "habit(0, 3)", INDEX, () -> x.habit(0, 3));
        due(15, "habit(0, -1)", INDEX, () -> x.habit(0, -1));
        due(15, "habit(0, 0)", 2, () -> x.habit(0, 0));
        due(15, "habit(0, 1)", 0, () -> x.habit(0, 1));
        due(16, "his(4)", INDEX, () -> x.his(4));
        due(16, "his(-1)", INDEX, () -> x.his(-1));
        due(16, "his(1)", 0, () -> x.his(1));
        due(17, "crumb(6)", INDEX, () -> x.crumb(6));
        due(17, "crumb(-1)", INDEX, () -> x.crumb(-1));
        due(17, "crumb(1)", 2, () -> x.crumb(1));
        due(17, "those without b", 10, () -> x.count(12));
        due(16, "possible stays", 1, () -> x.his(3));
        due(16, "possible", 10, () -> x.count(12));
        due(16, "not possible", 3, () -> x.his(0));
        due(16, "all again", 15, () -> x.count(12));
        UnaskedName e = new UnaskedName();
        due(17, "no name", STATE, () -> e.crumb(0));
        due(17, "no name, no trait", INDEX, () -> e.crumb(6));
        due(16, "no name", INDEX, () -> e.his(0));
        due(14, "nobody", INDEX, () -> n(e.keep(0, true)));
        UnaskedName g = told("word 1;friend 0;name a credit 1;limit 1");
        g.say(0, 0);
        due(17, "gone", STATE, () -> g.crumb(0));
        due(17, "gone, no trait", INDEX, () -> g.crumb(-1));
        due(14, "keep, gone", 1, () -> n(g.keep(0, false)));
        due(15, "habit, gone", 0, () -> g.habit(0, 0));
        due(16, "his, gone", 0, () -> g.his(0));
        due(18, "nights(0)", ARGUMENT, () -> x.nights(0));
        due(18, "nights(61)", ARGUMENT, () -> x.nights(61));
        due(18, "nights, gone", 0, () -> g.nights(1));
        due(18, "nights, gone, wrong", ARGUMENT, () -> g.nights(-1));
        UnaskedName y = told("year 3");
        due(18, "by the year", 3, () -> y.nights(60));
        due(18, "no more", 0, () -> y.nights(1));
        due(54, "left", 0, () -> y.count(16));
        story(y, "year 1");
        due(54, "left, 0 at least", 0, () -> y.count(16));
        UnaskedName z = told("word 9;word 4;deed 3 costs 1;enemy 1;enemy 0;limit 20;talk 100");
        due(18, "asked in the second", 2, () -> z.nights(5));
        due(18, "night is one more then too", 2, () -> z.count(9));
        due(18, "doubt", 23, () -> z.count(7));
        due(18, "words", 4, () -> z.count(17));
        UnaskedName s = told("word 1;friend 0;enemy 0;talk 0;deed 1 costs 1;doubt 9");
        due(18, "silent nights", 4, () -> s.nights(4));
        due(18, "nobody spoke", 0, () -> s.count(17));
        due(18, "deeds are done", 5, () -> s.count(7));
        int draws = 1;
        for (int i = 0; i < 12; i++) draws = draws * 1103515245 + 12345;
        int want = draws;
        due(18, "two draws for words and one for the deed, each night", want, () -> s.seed(1));
        s.keep(0, false);
        s.nights(1);
        int two = (1103515245 + 12345) * 1103515245 + 12345;
        due(18, "one who is away does not draw", two, () -> s.seed(5));
        drawnNights();
    }

    /** Draws by hand: talk 50, three deeds, two of the court; each night in the order that the document tells. */
    private static void drawnNights() {
        UnaskedName x = told("word 7;word 5;friend 0;enemy 1;deed 1 costs 1;deed 2 costs 1;deed 4 costs 1;limit 99");
        int seed = 77;
        int doubt = 0;
        x.seed(77);
        for (int night = 0; night < 10; night++) {
            for (int who = 0; who < 2; who++) {
                seed = seed * 1103515245 + 12345;
                if ((seed >>> 16) % 32768 % 100 < 50) doubt += who == 0 ? 7 : 5;
            }
            seed = seed * 1103515245 + 12345;
            doubt = Math.max(0, doubt - (1 << (seed >>> 16) % 32768 % 3));
            int want = doubt;
            due(46, "trial of one night", want, () -> x.trial(1, false));
            due(18, "a night", 1, () -> x.nights(1));
            due(18, "doubt by draws", want, () -> x.count(7));
        }
        int end = seed;
        due(50, "seed by draws", end, () -> x.seed(0));
    }

    private static void p19to21() {
        UnaskedName x = court();
        due(19, "would(3, 0)", INDEX, () -> x.would(3, 0, false));
        due(19, "would(0, 3)", INDEX, () -> x.would(0, 3, true));
        due(19, "would(0, -1)", INDEX, () -> x.would(0, -1, true));
        due(19, "doubt", 8, () -> x.would(0, 1, false));
        due(19, "left", 2, () -> x.would(0, 1, true));
        due(19, "nothing stays", 15, () -> x.count(12));
        due(19, "no log", 0, () -> x.count(17));
        x.keep(0, false);
        due(19, "of one who is away", 8, () -> x.would(0, 1, false));
        x.keep(0, true);
        UnaskedName t = told("word 20;friend 0;doubt 95");
        due(19, "99 at most", 99, () -> t.would(0, 0, false));
        due(20, "ahead(2, 1)", INDEX, () -> x.ahead(2, 1));
        due(20, "ahead(-2, 999)", INDEX, () -> x.ahead(-2, 999));
        due(20, "ahead(-1, -1)", ARGUMENT, () -> x.ahead(-1, -1));
        due(20, "ahead(-1, 401)", ARGUMENT, () -> x.ahead(-1, 401));
        due(20, "ahead(0, 2)", 20, () -> x.ahead(0, 2));
        due(20, "ahead(0, 3)", 36, () -> x.ahead(0, 3));
        due(20, "none comes, as he is gone", 36, () -> x.ahead(0, 400));
        due(20, "asked by the second", 21, () -> told("word 9;word 4;enemy 1;enemy 0;limit 21;doubt 12").ahead(NONE, 9) - 4);
        UnaskedName y = told("word 1;friend 0;year 5");
        due(20, "by the year", 5, () -> y.ahead(NONE, 400));
        due(20, "nothing stays", 0, () -> y.count(9));
        due(21, "first(2)", INDEX, () -> x.first(2));
        due(21, "first(-2)", INDEX, () -> x.first(-2));
        due(21, "first by the year", NONE, () -> y.first(NONE));
        UnaskedName z = told("word 1;friend 0;limit 50;year 400");
        due(21, "first", 50, () -> z.first(NONE));
        story(z, "year 49");
        due(21, "first, the year is short", NONE, () -> z.first(NONE));
        UnaskedName late = told("word 0;friend 0;limit 20;year 400");
        law(late, "sting 20 if night > 398");
        due(21, "first, the last there can be", 400, () -> late.first(NONE));
        due(20, "ahead, the last there can be", 20, () -> late.ahead(NONE, 400));
        due(20, "ahead, one less", 0, () -> late.ahead(NONE, 399));
        due(20, "ahead by none", 0, () -> late.ahead(NONE, 0));
        story(z, "year 50;limit 1");
        z.say(0, 0);
        due(21, "first, she asked already", 1, () -> z.first(NONE));
    }

    private static void p22to26() {
        UnaskedName x = told("word 9;word 4;deed 3 costs 1;deed 5 costs 2;enemy 1;enemy 0;limit 20;talk 100;year 3");
        due(22, "siege(0)", ARGUMENT, () -> x.siege(0));
        due(22, "siege(13)", ARGUMENT, () -> x.siege(13));
        due(23, "plan(0)", ARGUMENT, () -> x.plan(0));
        due(23, "plan(13)", ARGUMENT, () -> x.plan(13));
        due(24, "keeps(-1, 0)", ARGUMENT, () -> x.keeps(-1, 0));
        due(24, "keeps(100, 0)", ARGUMENT, () -> x.keeps(100, 0));
        due(24, "keeps(0, -1)", ARGUMENT, () -> x.keeps(0, -1));
        due(24, "keeps(0, 12)", ARGUMENT, () -> x.keeps(0, 12));
        due(22, "9, 4; 13, 8; 17, 12; 21", 4, () -> x.siege(12));
        due(22, "not in 3", NONE, () -> x.siege(3));
        due(23, "the first enemy's word 0", 0, () -> x.plan(12));
        x.keep(0, false);
        due(23, "he is away", 1, () -> x.plan(4));
        x.keep(1, false);
        due(22, "all are away", NONE, () -> x.siege(12));
        due(23, "all are away", NONE, () -> x.plan(12));
        x.keep(0, true);
        due(24, "no night more", NONE, () -> x.keeps(19, 0));
        due(24, "11: by a deed not in one night", 0, () -> x.keeps(11, 1));
        due(24, "14: only the second", 1, () -> x.keeps(15, 1));
        due(24, "18: no deed helps", NONE, () -> x.keeps(18, 1));
        due(24, "keeps(0, 11)", NONE, () -> x.keeps(0, 11));
        due(24, "doubt above the limit", NONE, () -> x.keeps(99, 1));
        UnaskedName f = told("word 9;friend 0;limit 5");
        due(22, "friends are no enemies", NONE, () -> f.siege(12));
        UnaskedName q = told("word 2;word 9;enemy 0;limit 20;doubt 10");
        law(q, "sting 20 if night > 0");
        due(22, "silence does as well", 2, () -> q.siege(12));
        due(23, "silence does as well", NONE, () -> q.plan(12));
        UnaskedName w = told("word 2 of a;word 9;enemy 0;limit 20;doubt 18;name a credit 1;name b credit 1");
        law(w, "blunt 9 if sure");
        due(22, "a word that tells", 1, () -> w.siege(1));
        due(23, "the least word", 0, () -> w.plan(1));
        UnaskedName t = told("word 5 of a;enemy 0;limit 10;name a credit 1;name b credit 1");
        law(t, "blunt 5 if sure");
        due(22, "traits tell nothing in it", 2, () -> t.siege(2));
        due(22, "the word 2, asked by", 2, () -> t.fewest(0) == NONE ? 2 : 0);
        UnaskedName m = told("word 3;word 8;friend 0;enemy 0;enemy 1;limit 8");
        due(23, "the word before who says it", 11, () -> m.plan(1));
        UnaskedName d = told("word 0;enemy 0;limit 10;doubt 10;deed 1 costs 0");
        due(22, "doubt is the limit, a word asks", 1, () -> d.siege(1));
        d.say(0, 0);
        due(22, "gone", NONE, () -> d.siege(1));
        due(23, "gone", NONE, () -> d.plan(1));
        due(24, "gone, a told doubt that a deed keeps", 0, () -> d.keeps(10, 1));
        due(24, "gone, a told doubt that needs no deed", NONE, () -> d.keeps(9, 1));
        due(24, "gone, a told doubt that no deed keeps", NONE, () -> d.keeps(11, 11));
        due(24, "gone, no such doubt", ARGUMENT, () -> d.keeps(100, 1));
        due(24, "gone, no such nights", ARGUMENT, () -> d.keeps(10, 12));
        due(24, "he is gone still", 1, () -> d.count(13));
        due(22, "gone, wrong", ARGUMENT, () -> d.siege(0));
        due(25, "gone", NONE, () -> d.fewest(0));
        due(26, "gone", NONE, () -> d.silence(1));
        due(25, "fewest(1)", INDEX, () -> d.fewest(1));
        due(25, "fewest(-1)", INDEX, () -> d.fewest(-1));
        UnaskedName r = told("word 1;friend 0;limit 20");
        due(25, "20 words", 20, () -> r.fewest(0));
        r.keep(0, false);
        due(25, "of one who is away", 20, () -> r.fewest(0));
        story(r, "limit 21");
        due(25, "21 are too many", NONE, () -> r.fewest(0));
        story(r, "word 7");
        due(25, "the sharper word", 3, () -> r.fewest(0));
        law(r, "blunt 20 if doubt > 6 and not doubt > 7");
        due(25, "a 1 ahead of the 7s", 4, () -> r.fewest(0));
        due(26, "silence(0)", ARGUMENT, () -> r.silence(0));
        due(26, "silence(61)", ARGUMENT, () -> r.silence(61));
        UnaskedName c = told("word 5;word 9;friend 0;enemy 1;friend 0;enemy 1;limit 20");
        due(26, "a 9 goes, 19 are left", 2, () -> c.silence(1));
        due(26, "in 60 nights all", 15, () -> c.silence(60));
        c.keep(1, false);
        due(26, "of those who are near", 0, () -> c.silence(1) == 0 ? 0 : 1);
        due(26, "in two nights", 13, () -> c.silence(4));
        due(26, "nothing stays", 13, () -> c.count(15));
    }

    private static void p27to33() {
        UnaskedName e = new UnaskedName();
        due(27, "best of none", NONE, e::best);
        due(28, "learns of none", NONE, e::learns);
        due(29, "worst of none", 0, e::worst);
        due(30, "hides of none", 0, e::hides);
        due(31, "alike of none", 0, e::alike);
        due(32, "belief of none", 0, () -> e.belief(0));
        due(32, "belief(6)", INDEX, () -> e.belief(6));
        due(32, "belief(-1)", INDEX, () -> e.belief(-1));
        due(33, "likeliest of none", NONE, e::likeliest);
        due(43, "shared of none", 0, e::shared);
        UnaskedName x = told("name abc credit 3;name abd credit 3;name ab credit 2;name a credit 1;name f credit 1");
        due(27, "b parts 3 and 2", 1, x::best);
        due(28, "c alone", 4, x::learns);
        x.his(2);
        due(28, "b, c and d", 14, x::learns);
        due(29, "three crumbs", 3, x::worst);
        due(30, "hides", 47, x::hides);
        due(33, "likeliest, the least", 0, x::likeliest);
        due(32, "belief in b", 8000, () -> x.belief(1));
        due(32, "belief in e", 0, () -> x.belief(4));
        x.crumb(0);
        due(43, "shared", 1, x::shared);
        due(30, "hides", 14, x::hides);
        due(29, "three crumbs still", 3, x::worst);
        due(32, "rounded down", 3333, () -> x.belief(2));
        x.crumb(2);
        due(33, "likeliest", 1, x::likeliest);
        x.crumb(3);
        x.crumb(1);
        due(28, "it is known", 0, x::learns);
        due(29, "it is known", 0, x::worst);
        due(27, "it is known", NONE, x::best);
        UnaskedName y = told("name ab credit 1;name ab credit 1;name c credit 1;name ab credit 1;name c credit 9");
        due(31, "alike", 4, y::alike);
        due(28, "never", NONE, y::learns);
        due(29, "never", NONE, y::worst);
        y.crumb(0);
        due(27, "nothing parts them", 0, y::best);
        due(30, "nothing hides", 0, y::hides);
        due(43, "all of them", 3, y::shared);
        due(31, "alike, possible or not", 4, y::alike);
        due(33, "likeliest that is possible", 0, y::likeliest);
        UnaskedName z = told("name a credit 1;name b credit 1;name c credit 1;name d credit 1;name e credit 1;name f credit 1");
        due(29, "one letter each", 5, z::worst);
        due(27, "the least of several", 0, z::best);
        UnaskedName two = told("name bc credit 1;name d credit 1");
        due(27, "best of two", 1, two::best);
        due(28, "of several the least", 2, two::learns);
        due(29, "worst of two", 1, two::worst);
        UnaskedName w = told("name abc credit 1;name bc credit 1;name ac credit 1;name ab credit 1");
        due(28, "the least as bits of three", 7, w::learns);
        w.his(1);
        due(28, "a", 1, w::learns);
    }

    private static void p34to37() {
        UnaskedName e = new UnaskedName();
        due(34, "duty(0)", INDEX, () -> e.duty(0));
        due(35, "cover of none", 0, e::cover);
        due(36, "alone of none", 0, e::alone);
        due(37, "seals of none", 0, () -> e.seals(-1));
        UnaskedName x = told("duty ab;duty bc;duty cd;duty e;duty fa");
        due(34, "duty(0)", 3, () -> x.duty(0));
        due(34, "duty(2)", 12, () -> x.duty(2));
        due(34, "duty(5)", INDEX, () -> x.duty(5));
        due(34, "duty(-1)", INDEX, () -> x.duty(-1));
        due(35, "a, c, e", 21, x::cover);
        due(36, "e", 16, x::alone);
        due(37, "b", 3, () -> x.seals(2));
        due(37, "none", 0, () -> x.seals(0));
        due(37, "all", 31, () -> x.seals(63));
        due(37, "bits of none count for nothing", 0, () -> x.seals(-64));
        due(37, "all bits", 31, () -> x.seals(-1));
        story(x, "duty f;duty d;duty abcdef");
        due(35, "four", 58, x::cover);
        due(36, "d, e, f", 56, x::alone);
        due(35, "of several the least", 2, () -> told("duty fb").cover());
        UnaskedName y = told("duty bc;duty ac");
        due(35, "one", 4, y::cover);
        UnaskedName z = told("duty a;duty b;duty c;duty d;duty e;duty f");
        due(35, "all", 63, z::cover);
        due(36, "all", 63, z::alone);
    }

    private static void p38to42() {
        UnaskedName x = told("word 3;word 8;word 0;friend 0;enemy 1;deed 20 costs 1;deed 5 costs 9;deed 3 costs 4;deed 8 costs 9;limit 21");
        due(38, "no row", NONE, x::began);
        due(39, "no row", NONE, x::loudest);
        x.say(1, 0);
        due(39, "the oldest row counts", 1, x::loudest);
        x.say(0, 0);
        due(39, "one each: the least", 0, x::loudest);
        x.say(1, 2);
        due(39, "no greater doubt", 0, x::loudest);
        x.say(1, 0);
        due(39, "two of the second", 1, x::loudest);
        due(38, "9 is not above 10", NONE, x::began);
        x.say(0, 1);
        x.say(0, 0);
        due(38, "17, 20", 1, x::began);
        x.does(0);
        x.say(1, 1);
        due(38, "8: none", NONE, x::began);
        x.say(1, 0);
        due(38, "11", 0, x::began);
        story(x, "limit 23");
        due(38, "half is rounded down", NONE, x::began);
        due(40, "fits(3)", 2, () -> x.fits(3));
        due(40, "fits(8)", 2, () -> x.fits(8));
        due(40, "fits(0)", 2, () -> x.fits(0));
        due(40, "fits(-1)", 0, () -> x.fits(-1));
        due(40, "fits(5)", 0, () -> x.fits(5));
        x.keep(0, false);
        due(40, "near or not", 2, () -> x.fits(3));
        story(x, "doubt 97");
        due(40, "up to 99", 4, () -> x.fits(2));
        due(41, "cheapest(-1)", ARGUMENT, () -> x.cheapest(-1, false));
        due(41, "cheapest(100)", ARGUMENT, () -> x.cheapest(100, true));
        due(41, "none needed", 0, () -> x.cheapest(97, false));
        due(41, "none needed", 0, () -> x.cheapest(97, true));
        due(41, "the first", 1, () -> x.cheapest(96, false));
        due(41, "77: a third too", 5, () -> x.cheapest(74, false));
        due(41, "how much", 5, () -> x.cheapest(74, true));
        due(41, "69: the fourth", 9, () -> x.cheapest(69, false));
        due(41, "all", 15, () -> x.cheapest(61, false));
        due(41, "how much", 23, () -> x.cheapest(61, true));
        due(41, "not by all", NONE, () -> x.cheapest(60, false));
        due(41, "not by all", NONE, () -> x.cheapest(60, true));
        law(x, "soothe 20 if deed > 1 and doubt < 95");
        due(41, "one behind another by numbers", 5, () -> x.cheapest(54, false));
        due(42, "sharpest(2)", INDEX, () -> x.sharpest(2));
        due(42, "sharpest(-1)", INDEX, () -> x.sharpest(-1));
        due(42, "sharpest", 1, () -> x.sharpest(0));
        law(x, "sting 5 if word < 1 and who > 0;sting 8 if word > 1");
        due(42, "of several the least", 0, () -> x.sharpest(1));
        due(42, "of several the least", 1, () -> x.sharpest(0));
        UnaskedName w = told("word 0;friend 0");
        due(42, "a word of no sting", 0, () -> w.sharpest(0));
        UnaskedName same = told("deed 5 costs 2;deed 5 costs 2;deed 5 costs 3;doubt 5");
        due(41, "of several the least", 1, () -> same.cheapest(0, false));
        due(41, "cheapest(99)", 0, () -> same.cheapest(99, false));
        due(41, "no deeds", NONE, () -> told("doubt 1").cheapest(0, false));
        due(41, "no deeds, no doubt", 0, () -> told("doubt 1").cheapest(1, false));
    }

    private static void p43to49() {
        UnaskedName x = court();
        due(44, "similar(4, 0)", INDEX, () -> x.similar(4, 0));
        due(44, "similar(-1, 9)", INDEX, () -> x.similar(-1, 9));
        due(44, "similar(0, -1)", ARGUMENT, () -> x.similar(0, -1));
        due(44, "similar(0, 7)", ARGUMENT, () -> x.similar(0, 7));
        due(44, "similar(3, 0)", 0, () -> x.similar(3, 0));
        due(44, "similar(3, 6)", 7, () -> x.similar(3, 6));
        due(44, "similar(3, 3)", 7, () -> x.similar(3, 3));
        due(44, "similar(3, 2)", 0, () -> x.similar(3, 2));
        x.crumb(0);
        due(44, "possible or not", 6, () -> x.similar(0, 2));
        due(44, "alike by 0", 2, () -> told("name ab credit 1;name ba credit 1;name a credit 1").similar(0, 0));
        due(45, "learnt(2)", INDEX, () -> x.learnt(2));
        due(45, "learnt(-2)", INDEX, () -> x.learnt(-2));
        due(45, "learnt", 1, () -> x.learnt(NONE));
        x.crumb(1);
        due(45, "learnt by now", 0, () -> x.learnt(1));
        UnaskedName y = told("word 1;word 1 of a;friend 0;name a credit 1;name b credit 1");
        due(45, "never", NONE, () -> y.learnt(NONE));
        y.habit(0, 1);
        due(45, "by the first night", 1, () -> y.learnt(NONE));
        due(46, "trial(-1)", ARGUMENT, () -> y.trial(-1, false));
        due(46, "trial(61)", ARGUMENT, () -> y.trial(61, true));
        due(47, "span(-1)", ARGUMENT, () -> y.span(-1));
        due(47, "span(61)", ARGUMENT, () -> y.span(61));
        story(y, "talk 100;limit 3");
        due(46, "two nights", 2, () -> y.trial(2, false));
        due(46, "not asked", 0, () -> y.trial(2, true));
        due(46, "three nights", 3, () -> y.trial(60, false));
        due(46, "asked", 1, () -> y.trial(3, true));
        due(46, "trial of no night", 0, () -> y.trial(0, false));
        due(47, "span of no night", 0, () -> y.span(0));
        due(47, "span of 60", 6, () -> y.span(60));
        due(47, "in none", 0, () -> y.span(2));
        due(47, "in all", 6, () -> y.span(3));
        due(46, "nothing stays", 0, () -> y.count(9) + y.count(7) + y.count(17));
        due(46, "nor of the seed", 1, () -> y.seed(1));
        story(y, "talk 50;limit 1");
        int in = 0;
        for (int seed = 1; seed <= 6; seed++) {
            y.seed(seed);
            in += y.trial(1, true);
        }
        int want = in;
        due(47, "trials from 1 to 6", want, () -> y.span(1));
        due(47, "some of them", 1, () -> want > 0 && want < 6 ? 1 : 0);
        UnaskedName z = told("word 1;word 0;friend 0;enemy 1;limit 99;name ab credit 1;name b credit 1");
        due(48, "led(2, 0)", INDEX, () -> z.led(2, 0));
        due(48, "led(0, 2)", INDEX, () -> z.led(0, 2));
        due(48, "led(0, -2)", INDEX, () -> z.led(0, -2));
        for (int i = 0; i < 40; i++) z.say(0, 0);
        for (int i = 0; i < 30; i++) z.say(1, i % 2);
        due(48, "the latest 60", 60, () -> z.count(17));
        due(48, "led(0, NONE)", 30, () -> z.led(0, NONE));
        due(48, "led(1, NONE)", 30, () -> z.led(1, NONE));
        due(48, "led(1, 1)", 15, () -> z.led(1, 1));
        due(48, "led(0, 1)", 0, () -> z.led(0, 1));
        due(49, "log(0, -1)", ELEMENT, () -> z.log(0, -1));
        due(49, "log(0, 5)", ELEMENT, () -> z.log(0, 5));
        due(49, "log(99, 5)", ELEMENT, () -> z.log(99, 5));
        due(49, "log(60, 3)", NONE, () -> z.log(60, 3));
        due(49, "log(-1, 0)", NONE, () -> z.log(-1, 0));
        due(49, "the oldest", 11, () -> z.log(59, 3));
        due(49, "the latest doubt", 55, () -> z.log(0, 3));
        due(49, "the latest word", 1, () -> z.log(0, 2));
        due(49, "of whom", 1, () -> z.log(0, 1));
        due(49, "possible", 2, () -> z.log(0, 4));
        z.nights(1);
        z.say(0, 0);
        due(49, "the night", 1, () -> z.log(0, 0));
    }

    private static void p50to54() {
        UnaskedName x = court();
        due(50, "seed", 1, () -> x.seed(Integer.MIN_VALUE));
        due(50, "seed", Integer.MIN_VALUE, () -> x.seed(7));
        due(51, "seed is no act", 0, () -> x.count(18));
        x.say(0, 0);
        x.seed(9);
        due(51, "undo", 1, () -> n(x.undo()));
        due(51, "the seed goes back too", 7, () -> x.seed(7));
        due(51, "doubt goes back", 0, () -> x.count(7));
        due(51, "the log goes back", 0, () -> x.count(17));
        due(51, "no more", 0, () -> n(x.undo()));
        for (int i = 0; i < 14; i++) x.does(0);
        due(51, "12 are remembered", 12, () -> x.count(18));
        due(51, "a wrong act", STATE, () -> { x.keep(0, false); return x.say(0, 0); });
        due(51, "an act of no change", 0, () -> n(x.keep(0, false)));
        x.undo();
        x.undo();
        due(51, "near again", 7, () -> x.count(15));
        due(51, "two less", 10, () -> x.count(18));
        due(51, "a wrong text forgets nothing", ARGUMENT, () -> story(x, "x"));
        due(51, "two less", 10, () -> x.count(18));
        due(51, "fault stays as it is", 1, () -> { x.undo(); return x.fault() + 1; });
        law(x, "");
        due(51, "a law forgets", 0, () -> n(x.undo()));
        x.does(0);
        story(x, "");
        due(51, "a story forgets", 0, () -> x.count(18));
        x.say(1, 0);
        x.nights(3);
        due(51, "nights of one call are one", 2, () -> x.count(18));
        x.undo();
        due(51, "night", 0, () -> x.count(9));
        due(51, "doubt", 5, () -> x.count(7));
        x.say(0, 1);
        x.habit(0, 0);
        x.his(1);
        x.crumb(1);
        due(51, "crumb", 2, () -> x.count(12));
        x.undo();
        due(51, "crumb undone", 3, () -> x.count(12));
        x.undo();
        due(51, "his undone", 0, () -> x.count(11));
        x.undo();
        due(51, "habit undone", 2, () -> x.court(0, 1));
        x.undo();
        due(51, "the word undone", 15, () -> x.count(12));
        UnaskedName g = told("word 9;friend 0;limit 9");
        g.say(0, 0);
        due(51, "gone", 1, () -> g.count(13));
        g.undo();
        due(51, "asking undone", 0, () -> g.count(13));
        UnaskedName t = told("word 1;friend 0");
        tape(t, "talk 1");
        t.say(0, 0);
        t.undo();
        due(51, "the tape stays", 1, () -> n(t.end(6)));
        due(53, "no image", 0, () -> n(t.back()));
        t.say(0, 0);
        due(53, "nothing happens", 1, () -> t.count(18));
        t.image();
        t.end(0);
        law(t, "sting 3");
        story(t, "word 2;talk 3;name a credit 1");
        t.say(0, 1);
        t.seed(44);
        due(52, "more than the image", 6, () -> t.count(7));
        tape(t, "limit 7");
        due(53, "back", 1, () -> n(t.back()));
        due(53, "doubt", 1, () -> t.count(7));
        due(53, "words", 1, () -> t.count(2));
        due(53, "names", 0, () -> t.count(0));
        due(53, "his", NONE, () -> t.count(11));
        due(53, "texts", 1, () -> t.count(5));
        due(53, "law", NONE, () -> t.count(6));
        due(53, "talk", 50, () -> t.count(14));
        due(53, "log", 1, () -> t.count(17));
        due(53, "none are remembered", 0, () -> t.count(18));
        due(53, "seed", 1, () -> t.seed(1));
        due(53, "the tape stays", 2, t::story);
        due(53, "limit", 7, () -> t.count(8));
        due(53, "back again", 1, () -> n(t.back()));
        due(53, "limit", 50, () -> t.count(8));
        due(54, "count(19)", NONE, () -> t.count(19));
        due(54, "count(MIN)", NONE, () -> t.count(Integer.MIN_VALUE));
        UnaskedName r = told("word 5;enemy 0");
        due(12, "as the README says", 5, () -> r.say(0, 0));
        due(22, "as the README says", 9, () -> r.siege(12));
    }

    public static void main(String[] args) {
        p1();
        p2to3();
        p4();
        p5();
        p7to11();
        p12to13();
        p14to18();
        p19to21();
        p22to26();
        p27to33();
        p34to37();
        p38to42();
        p43to49();
        p50to54();
        System.out.println(asked + " answers by the promises, " + wrong + " wrong");
        if (wrong != 0) System.exit(1);
    }
}
