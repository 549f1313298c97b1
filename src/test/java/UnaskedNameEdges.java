import java.util.NoSuchElementException;
import java.util.function.Supplier;

/**
 * The document's edges in its own order: each sentence that names a boundary (too small, too large, empty, full, a
 * wrap-around, a refused call) has a check that fails, if that sentence does not hold. No object is called more than
 * 512 times.
 */
public final class UnaskedNameEdges {
    private static final int NONE = UnaskedName.NONE;
    private static final int INDEX = -101;
    private static final int ARGUMENT = -102;
    private static final int STATE = -103;
    private static final int ELEMENT = -104;
    private static final int UNSUPPORTED = -105;
    private static final int OTHER = -199;
    private static final int MIN = Integer.MIN_VALUE;
    private static final int MAX = Integer.MAX_VALUE;

    private static int checks = 0;
    private static int wrong = 0;
    private static String sentence = "";

    private interface Call { int go(); }
    private interface On { int go(UnaskedName x); }

    // ---- helps ----

    /** The words of the document that the checks below it hold. */
    private static void says(String words) { sentence = words; }

    private static int answer(Call call) {
        try {
            return call.go();
        } catch (RuntimeException e) {
            Class<?> c = e.getClass();
            if (c == IndexOutOfBoundsException.class) return INDEX;
            if (c == IllegalArgumentException.class) return ARGUMENT;
            if (c == IllegalStateException.class) return STATE;
            if (c == NoSuchElementException.class) return ELEMENT;
            return c == UnsupportedOperationException.class ? UNSUPPORTED : OTHER;
        }
    }

    private static void due(int want, String what, Call call) { tell(what, answer(call), want); }

    private static void yes(String what, boolean so) { tell(what, so ? 1 : 0, 1); }

    private static void tell(String what, Object got, Object want) {
        checks++;
        if (!got.equals(want)) {
            wrong++;
            System.out.println("'" + sentence + "': " + what + " answered " + got + ", due is " + want);
        }
    }

    private static int n(boolean b) { return b ? 1 : 0; }

    private static void tape(UnaskedName x, String text) {
        x.end(0);
        for (int i = 0; i < text.length(); i += 20) {
            int[] a = new int[5];
            for (int k = 0; k < 20 && i + k < text.length(); k++) a[k / 4] |= (text.charAt(i + k) & 255) << 24 - 8 * (k % 4);
            x.feed(a[0], a[1], a[2], a[3], a[4]);
        }
        x.end(text.length());
    }

    private static int story(UnaskedName x, String text) { tape(x, text); return x.story(); }
    private static int law(UnaskedName x, String text) { tape(x, text); return x.law(); }

    private static UnaskedName told(String... texts) {
        UnaskedName x = new UnaskedName();
        for (String t : texts) story(x, t);
        return x;
    }

    private static UnaskedName ruled(String law, String... texts) {
        UnaskedName x = told(texts);
        law(x, law);
        return x;
    }

    private static String times(String line, int n) {
        StringBuilder t = new StringBuilder(line);
        for (int i = 1; i < n; i++) t.append(';').append(line);
        return t.toString();
    }

    private static String again(String part, int n) {
        StringBuilder t = new StringBuilder();
        for (int i = 0; i < n; i++) t.append(part);
        return t.toString();
    }

    /** Some 130 answers at most, that tell what an object is; the seed is told and put back. */
    private static String picture(UnaskedName x) {
        StringBuilder p = new StringBuilder();
        int[] count = new int[19];
        for (int i = 0; i <= 18; i++) {
            count[i] = x.count(i);
            p.append(count[i]).append(' ');
        }
        for (int i = 0; i < count[0]; i++) p.append(x.name(i, 0)).append(x.name(i, 1)).append(x.name(i, 2)).append(' ');
        for (int i = 0; i < count[1]; i++) p.append(x.court(i, 0)).append(x.court(i, 1)).append(x.court(i, 2)).append(' ');
        for (int i = 0; i < count[2]; i++) p.append(x.word(i, false)).append('/').append(x.word(i, true)).append(' ');
        for (int i = 0; i < count[3]; i++) p.append(x.deed(i, 0)).append('/').append(x.deed(i, 1)).append('/').append(x.deed(i, 2)).append(' ');
        for (int i = 0; i < count[4]; i++) p.append(x.duty(i)).append(' ');
        for (int i = 0; i < 4; i++) for (int k = 0; k < 5; k++) p.append(x.log(i, k)).append(' ');
        if (count[1] > 0) p.append(x.stings(0, 0)).append(' ');
        int seed = x.seed(0);
        x.seed(seed);
        return p.append(seed).toString();
    }

    /** A call that throws: the exception, and nothing is other than it was. */
    private static void refused(int exception, String what, UnaskedName x, On call) {
        String before = picture(x);
        due(exception, what, () -> call.go(x));
        tell(what + " changed the object", picture(x), before);
    }

    private static void wrongStory(int where, String text) { wrongStory(where, new UnaskedName(), text); }

    private static void wrongStory(int where, UnaskedName x, String text) {
        refused(ARGUMENT, "story '" + text + "'", x, y -> story(y, text));
        due(where, "fault of '" + text + "'", x::fault);
        due(0, "the tape behind '" + text + "'", () -> n(x.end(1)));
    }

    private static void rightStory(String text) { rightStory(new UnaskedName(), text); }

    private static void rightStory(UnaskedName x, String text) {
        int texts = x.count(5);
        due(texts + 1, "story '" + text + "'", () -> story(x, text));
        due(NONE, "fault of '" + text + "'", x::fault);
        due(0, "the tape behind '" + text + "'", () -> n(x.end(1)));
    }

    private static void wrongLaw(int where, String text) {
        UnaskedName x = ruled("sting 3", "word 5;friend 0");
        refused(ARGUMENT, "law '" + text + "'", x, y -> law(y, text));
        due(where, "fault of '" + text + "'", x::fault);
        due(0, "the tape behind '" + text + "'", () -> n(x.end(1)));
        due(8, "the old law behind '" + text + "'", () -> x.stings(0, 0));
    }

    private static void rightLaw(int lines, String text) {
        UnaskedName x = new UnaskedName();
        due(lines, "law '" + text + "'", () -> law(x, text));
        due(NONE, "fault of '" + text + "'", x::fault);
        due(lines, "lines of '" + text + "'", () -> x.count(6));
    }

    /** Everything that there can be: 10 names, 6 words, 4 deeds, 6 of the court, 8 duties. */
    private static UnaskedName full() {
        return told("name a credit 9;name b credit 8;name c credit 7;name d credit 6;name e credit 5;name f credit 4",
            "name ab credit 3;name bc credit 2;name cd credit 1;name abcdef credit 9;word 1;word 2 of a;word 3 of b;word 4 of f",
            "word 5;word 6;friend 0;enemy 1;friend 2;enemy 3;friend 4;enemy 5;limit 99",
            "deed 1 costs 1;deed 2 costs 2;deed 3 costs 3;deed 4 costs 4",
            "duty a;duty b;duty c;duty d;duty e;duty f;duty ab;duty cd");
    }

    /** As full, and she asked. */
    private static UnaskedName gone() {
        UnaskedName x = full();
        story(x, "limit 1");
        x.say(0, 0);
        return x;
    }

    // ---- the terms ----

    private static void names() {
        says("NAMES (at most 10, numbered from 0 on)");
        UnaskedName x = told(times("name a credit 1", 9));
        rightStory(x, "name f credit 2");
        due(10, "count(0)", () -> x.count(0));
        due(32, "the tenth", () -> x.name(9, 0));
        due(INDEX, "name(10, 0)", () -> x.name(10, 0));
        wrongStory(0, x, "name a credit 1");
        wrongStory(8, x, "talk 1; name a credit 1");
        wrongStory(7, told(times("name a credit 1", 9)), "name a cre 1");
        wrongStory(16, told(times("name a credit 1", 9)), "name a credit 1;name");
        says("TRAITS a to f, as bits");
        due(1, "a", () -> told("name a credit 1").name(0, 0));
        due(32, "f", () -> told("name f credit 1").name(0, 0));
        due(63, "all", () -> told("name fedcba credit 1").name(0, 0));
        wrongStory(5, "name g credit 1");
        wrongStory(5, "name ag credit 1");
        wrongStory(5, "name z credit 1");
        wrongStory(5, "name abcdefg credit 1");
        says("CREDIT 1 to 9");
        wrongStory(14, "name a credit 0");
        wrongStory(14, "name a credit 10");
        wrongStory(14, "name a credit 999");
        due(1, "1", () -> told("name a credit 1").name(0, 1));
        due(9, "9", () -> told("name a credit 9").name(0, 1));
        says("HIS: the NAME he has (0 at first, as soon as there is one)");
        UnaskedName y = new UnaskedName();
        due(NONE, "without a NAME", () -> y.count(11));
        story(y, "word 1;deed 1 costs 1;friend 0");
        due(NONE, "without a NAME still", () -> y.count(11));
        story(y, "name a credit 1;name b credit 1");
        due(0, "the first", () -> y.count(11));
        story(y, "name c credit 1");
        due(0, "the first still", () -> y.count(11));
        y.his(2);
        story(y, "name d credit 1");
        due(2, "told", () -> y.count(11));
        says("POSSIBLE: NAMES that she holds possible, as bits (all, as they are told)");
        due(0, "without a NAME", () -> new UnaskedName().count(12));
        due(15, "all four", () -> y.count(12));
        due(1023, "all ten", () -> full().count(12));
        y.crumb(2);
        due(4, "c alone", () -> y.count(12));
        story(y, "name e credit 1");
        due(20, "and the one that is told then", () -> y.count(12));
    }

    private static void court() {
        says("COURT (at most 6, numbered from 0 on)");
        UnaskedName x = told("word 1;" + times("friend 0", 5));
        rightStory(x, "enemy 0");
        due(6, "count(1)", () -> x.count(1));
        due(1, "the sixth", () -> x.court(5, 0));
        due(INDEX, "court(6, 0)", () -> x.court(6, 0));
        wrongStory(0, x, "friend 0");
        wrongStory(1, x, " enemy 0");
        wrongStory(9, told("word 1;" + times("friend 0", 5)), "friend 0;friend 0");
        says("a SIDE 0 (friend) or 1 (enemy), a WORD that one says as a habit, NEAR (at first) or kept away");
        UnaskedName y = told("word 1;word 2;friend 1;enemy 0");
        due(0, "friend", () -> y.court(0, 0));
        due(1, "enemy", () -> y.court(1, 0));
        due(1, "habit", () -> y.court(0, 1));
        due(0, "habit", () -> y.court(1, 1));
        due(3, "near", () -> y.count(15));
        y.keep(0, false);
        story(y, "friend 0");
        due(6, "the new one is near, the other is not", () -> y.count(15));
        due(0, "kept away", () -> y.court(0, 2));
        due(1, "near", () -> y.court(2, 2));
    }

    private static void words() {
        says("WORDS (at most 6, numbered from 0 on)");
        UnaskedName x = told(times("word 1", 5));
        rightStory(x, "word 9");
        due(6, "count(2)", () -> x.count(2));
        due(9, "the sixth", () -> x.word(5, false));
        due(INDEX, "word(6, false)", () -> x.word(6, false));
        wrongStory(0, x, "word 1");
        wrongStory(7, told(times("word 1", 5)), "word 1;word 99");
        says("STING 0 to 20");
        due(0, "0", () -> told("word 0").word(0, false));
        due(20, "20", () -> told("word 20").word(0, false));
        wrongStory(5, "word 21");
        wrongStory(5, "word 100");
        wrongStory(5, "word -1");
        says("a TRAIT 0 to 5 that it tells, or none");
        due(0, "a", () -> told("word 1 of a").word(0, true));
        due(5, "f", () -> told("word 1 of f").word(0, true));
        due(NONE, "none", () -> told("word 1").word(0, true));
        wrongStory(10, "word 1 of g");
        wrongStory(10, "word 1 of ab");
        wrongStory(10, "word 1 of aa");
        wrongStory(10, "word 1 of 0");
        wrongStory(9, "word 1 of");
        wrongStory(9, "word 1 of;word 1");
        says("DEEDS (at most 4, numbered from 0 on): SOOTHES 0 to 20, COSTS 0 to 9");
        UnaskedName y = told(times("deed 0 costs 0", 3));
        rightStory(y, "deed 20 costs 9");
        due(4, "count(3)", () -> y.count(3));
        due(20, "soothes", () -> y.deed(3, 0));
        due(9, "costs", () -> y.deed(3, 1));
        due(0, "soothes", () -> y.deed(2, 0));
        due(0, "costs", () -> y.deed(2, 1));
        due(INDEX, "deed(4, 0)", () -> y.deed(4, 0));
        wrongStory(0, y, "deed 1 costs 1");
        wrongStory(15, told(times("deed 0 costs 0", 3)), "deed 1 costs 1;deed");
        wrongStory(5, "deed 21 costs 1");
        wrongStory(14, "deed 20 costs 10");
        wrongStory(12, "deed 1 costs");
    }

    private static void settings() {
        says("DOUBT 0 to 99 (0 at first)");
        due(0, "at first", () -> new UnaskedName().count(7));
        due(99, "99", () -> told("doubt 99").count(7));
        due(0, "0", () -> told("doubt 99;doubt 0").count(7));
        wrongStory(6, "doubt 100");
        says("LIMIT 1 to 99 (50 at first)");
        due(50, "at first", () -> new UnaskedName().count(8));
        due(1, "1", () -> told("limit 1").count(8));
        due(99, "99", () -> told("limit 99").count(8));
        wrongStory(6, "limit 0");
        wrongStory(6, "limit 100");
        says("NIGHT 0 at first; YEAR 1 to 400 (365 at first)");
        due(0, "night", () -> new UnaskedName().count(9));
        due(365, "at first", () -> new UnaskedName().count(10));
        due(1, "1", () -> told("year 1").count(10));
        due(400, "400", () -> told("year 400").count(10));
        wrongStory(5, "year 0");
        wrongStory(5, "year 401");
        wrongStory(5, "year 000");
        says("TALK 0 to 100 (50 at first)");
        due(50, "at first", () -> new UnaskedName().count(14));
        due(0, "0", () -> told("talk 0").count(14));
        due(100, "100", () -> told("talk 100").count(14));
        wrongStory(5, "talk 101");
        says("ASKED or not; GONE: he is, if she ASKED");
        due(0, "at first", () -> new UnaskedName().count(13));
        due(1, "asked", () -> gone().count(13));
        says("DUTIES (at most 8, numbered from 0 on): as bits of SEALS a to f that do each");
        UnaskedName x = told(times("duty a", 7));
        rightStory(x, "duty fb");
        due(8, "count(4)", () -> x.count(4));
        due(34, "the eighth", () -> x.duty(7));
        due(INDEX, "duty(8)", () -> x.duty(8));
        wrongStory(0, x, "duty a");
        wrongStory(7, told(times("duty a", 7)), "duty a;duty");
        wrongStory(5, "duty g");
        wrongStory(5, "duty aa");
        wrongStory(5, "duty 1");
        wrongStory(4, "duty");
    }

    // ---- the texts ----

    private static void storyTexts() {
        says("THE STORY is told in texts (at most 12, one behind another)");
        UnaskedName x = new UnaskedName();
        for (int i = 1; i <= 12; i++) {
            int k = i;
            due(k, "text " + k, () -> story(x, k == 1 ? "word 1;friend 0" : ""));
        }
        due(12, "count(5)", () -> x.count(5));
        x.say(0, 0);
        refused(UNSUPPORTED, "the 13th", x, y -> story(y, "talk 1"));
        due(0, "the tape behind it", () -> n(x.end(1)));
        refused(UNSUPPORTED, "the 13th, of no line", x, UnaskedName::story);
        says("Of several exceptions the one told first is thrown");
        wrongStory(5, x, "talk 101");
        due(1, "one can still undo", () -> n(x.undo()));
        says("LINE { ; LINE }, at most 14");
        rightStory(times("talk 1", 14));
        rightStory(times("year 400", 14));
        wrongStory(98, times("talk 1", 15));
        wrongStory(100, times("talk 1", 14) + ";  talk 1");
        wrongStory(98, times("talk 1", 14) + ";");
        wrongStory(98, times("talk 1", 14) + ";9");
        wrongStory(0, ";");
        wrongStory(0, ";talk 1");
        wrongStory(7, "talk 1;");
        wrongStory(9, "talk 1;  ");
        wrongStory(7, "talk 1;;talk 1");
        wrongStory(6, "talk 1,talk 1");
        wrongStory(7, "talk 1 year 1");
        says("T: a word of letters a to f, none twice");
        wrongStory(5, "name aa credit 1");
        wrongStory(5, "name abcdeff credit 1");
        wrongStory(7, "name a b credit 1");
        wrongStory(6, "name aB credit 1");
        wrongStory(5, "name A credit 1");
        wrongStory(5, "name credit 1");
        wrongStory(5, "name ;");
        rightStory("name fa credit 1;duty fedcba");
        says("W: a WORD that there is by then");
        wrongStory(7, "friend 0");
        wrongStory(7, "friend 0;word 1");
        wrongStory(14, "word 1;friend 1");
        wrongStory(13, "word 1;enemy 1;word 1");
        rightStory("word 1;friend 0;word 1;enemy 1");
        rightStory(told(times("word 1", 6)), "enemy 5");
        wrongStory(6, told(times("word 1", 6)), "enemy 6");
        says("N of his: a NAME that there is by then");
        wrongStory(4, "his 0");
        wrongStory(20, "name a credit 1;his 1");
        wrongStory(4, "his 0;name a credit 1");
        wrongStory(20, "name a credit 1;his 1;name b credit 1");
        due(1, "the second", () -> told("name a credit 1;name b credit 1;his 1").count(11));
        due(9, "the tenth", () -> { UnaskedName f = full(); story(f, "his 9"); return f.count(11); });
        due(0, "the first again", () -> told("name a credit 1;name b credit 1;his 1;his 0").count(11));
        wrongStory(4, full(), "his 10");
    }

    private static void signs() {
        says("Numbers are of 1 to 3 digits");
        due(7, "007", () -> told("talk 007").count(14));
        due(0, "000", () -> told("talk 000").count(14));
        wrongStory(5, "talk 0007");
        wrongStory(5, "talk 00000000000000000000007");
        wrongStory(5, "talk 4294967297");
        wrongStory(7, "talk 7 7");
        wrongStory(5, "talk +7");
        wrongStory(6, "talk 7.");
        wrongStory(13, "word 1;enemy 0000");
        wrongStory(14, "name a credit 0001");
        says("Words are as long as a to z go on");
        wrongStory(0, "talks 1");
        wrongStory(0, "tal 1");
        wrongStory(0, "namea credit 1");
        wrongStory(7, "word 1 ofa");
        wrongStory(7, "name a credits 1");
        wrongStory(6, "talk 1a");
        rightStory("talk1;year2;word3of a;deed4costs5;friend0;limit6");
        says("between all there may be blanks (32), also ahead and behind");
        rightStory("   talk   1   ;   year   2   ;   name   a   credit   3   ;word   4   of   b   ");
        wrongStory(0, "\ttalk 1");
        wrongStory(4, "talk\n1");
        wrongStory(6, "talk 1\r");
        wrongStory(6, "talk 1\0");
        wrongStory(4, "talk" + (char) 160 + "1");
        wrongStory(0, "t" + (char) 225 + "lk 1");
        wrongStory(0, "Talk 1");
        wrongStory(0, "" + (char) 255);
        wrongStory(0, "`");
        wrongStory(0, "{");
        wrongStory(5, "talk /");
        wrongStory(5, "talk :");
        says("A text that is empty, or blanks alone, has no LINE");
        rightStory("");
        rightStory(" ");
        rightStory(again(" ", 400));
        rightLaw(0, "");
        rightLaw(0, again(" ", 400));
    }

    private static void faults() {
        says("The first wrong byte: .. letters that are none such; a word that is none");
        wrongStory(0, "swan 1");
        wrongStory(7, "talk 1;swan");
        wrongStory(7, "name a merit 1");
        wrongStory(7, "deed 1 cost 1");
        wrongStory(7, "word 1 if a");
        wrongStory(5, "talk x");
        wrongStory(7, "friend a");
        wrongStory(5, "talk ;");
        wrongStory(5, "name 1 credit 1");
        says("or the text's length, if more must come");
        wrongStory(4, "name");
        wrongStory(5, "name ");
        wrongStory(6, "name a");
        wrongStory(13, "name a credit");
        wrongStory(16, "name a credit   ");
        wrongStory(4, "word");
        wrongStory(10, "word 1 of ");
        wrongStory(4, "deed");
        wrongStory(6, "deed 1");
        wrongStory(12, "deed 1 costs");
        wrongStory(6, "friend");
        wrongStory(5, "enemy");
        wrongStory(4, "duty");
        wrongStory(5, "limit");
        wrongStory(4, "year");
        wrongStory(3, "his");
        wrongStory(4, "talk");
        wrongStory(5, "doubt");
        wrongStory(400, "talk 1;" + again(" ", 393));
        wrongStory(399, again(" ", 399) + "x");
        wrongStory(0, again("x", 400));
        says("Of a wrong text nothing stays");
        UnaskedName x = full();
        wrongStory(0, x, "name");
        UnaskedName y = told("word 1;friend 0;name a credit 1;name b credit 1");
        y.say(0, 0);
        y.crumb(0);
        wrongStory(94, y, "name c credit 2;word 2 of c;deed 1 costs 1;enemy 1;duty a;limit 9;year 9;his 1;talk 9;doubt 9;x");
        due(2, "what can be undone", () -> y.count(18));
        says("The first wrong byte of the latest text that was read; NONE without one, and ahead of any");
        UnaskedName z = new UnaskedName();
        due(NONE, "ahead of any", z::fault);
        due(ARGUMENT, "wrong", () -> story(z, "talk"));
        due(4, "fault", z::fault);
        due(ARGUMENT, "wrong law", () -> law(z, "sting 1 if"));
        due(10, "fault", z::fault);
        due(0, "law", () -> law(z, ""));
        due(NONE, "fault", z::fault);
        due(ARGUMENT, "wrong", () -> story(z, "x"));
        due(0, "fault", z::fault);
        z.image();
        due(1, "story", () -> story(z, ""));
        due(NONE, "fault", z::fault);
        due(ARGUMENT, "wrong", () -> story(z, " x"));
        due(1, "back", () -> n(z.back()));
        due(1, "fault stays behind back", z::fault);
    }

    private static void lawTexts() {
        says("THE LAW (a text, in place of the one before): LINE { ; LINE }, at most 12");
        rightLaw(12, times("sting 1", 12));
        rightLaw(12, times("soothe 20 if sure", 12));
        wrongLaw(96, times("sting 1", 13));
        wrongLaw(98, times("sting 1", 12) + ";  x");
        wrongLaw(96, times("sting 1", 12) + ";");
        UnaskedName x = ruled("sting 3;soothe 2", "word 5;friend 0;deed 1 costs 1");
        due(8, "stings", () -> x.stings(0, 0));
        due(3, "eases", () -> x.deed(0, 2));
        due(1, "the next", () -> law(x, "blunt 2"));
        due(3, "stings", () -> x.stings(0, 0));
        due(1, "eases", () -> x.deed(0, 2));
        due(0, "none", () -> law(x, " "));
        due(5, "stings", () -> x.stings(0, 0));
        due(0, "a law of no line", () -> x.count(6));
        due(NONE, "no law", () -> new UnaskedName().count(6));
        due(1, "as many as one likes", () -> { for (int i = 0; i < 30; i++) law(x, "sting 1"); return law(x, "sting 2"); });
        due(7, "stings", () -> x.stings(0, 0));
        UnaskedName y = told("word 5;friend 0");
        String first = "sting 1 if 1<2" + again("or 1<2", 60);
        String second = "sting 2 if 2<1" + again("or 2<1", 60);
        for (int i = 0; i < 4; i++) {
            due(1, "a long one", () -> law(y, first));
            due(6, "it holds", () -> y.stings(0, 0));
            due(1, "another long one", () -> law(y, second));
            due(5, "it does not hold", () -> y.stings(0, 0));
        }
        due(ARGUMENT, "a wrong one, in the midst of six deep", () -> law(y, "sting 1 if not(not(not(true and"));
        due(1, "six deep", () -> law(y, "sting 3 if ((((((1<2))))))"));
        due(8, "it holds", () -> y.stings(0, 0));
        due(ARGUMENT, "a wrong one, in the midst of an and", () -> law(y, "sting 1 if true or 1 < 2 and"));
        due(1, "a plain one", () -> law(y, "sting 4 if 1<2"));
        due(9, "it holds", () -> y.stings(0, 0));
        due(4, "each LINE by itself", () -> law(y, "sting 1 if 2<1;sting 2;sting 4 if 1<2;blunt 1"));
        due(10, "those that hold", () -> y.stings(0, 0));
        says("All numbers are of 1 to 3 digits (N 0 to 20)");
        rightLaw(3, "sting 0;blunt 020;soothe 20");
        wrongLaw(6, "sting 21");
        wrongLaw(6, "blunt 21");
        wrongLaw(7, "soothe 21");
        wrongLaw(6, "sting 0001");
        wrongLaw(6, "sting -1");
        rightLaw(1, "sting 1 if 999 > 000");
        wrongLaw(11, "sting 1 if 1000 > 0");
        wrongLaw(15, "sting 1 if 1 > 0000");
        wrongLaw(15, "sting 1 if 1 + 1000 > 0");
        wrongLaw(15, "sting 1 if 1 > 1000 + 1");
        says("sting N [ if C ] | blunt N [ if C ] | soothe N [ if C ]");
        wrongLaw(0, "stings 1");
        wrongLaw(0, "word 1");
        wrongLaw(0, "1");
        wrongLaw(0, ";");
        wrongLaw(5, "sting");
        wrongLaw(6, "sting if true");
        wrongLaw(8, "sting 1 true");
        wrongLaw(8, "sting 1 1");
        wrongLaw(8, "sting 1;");
        wrongLaw(9, "sting 1; ");
        wrongLaw(8, "sting 1;;sting 1");
        wrongLaw(10, "sting 1 if");
        wrongLaw(12, "sting 1 if  ");
        wrongLaw(11, "sting 1 if ;sting 1");
        rightLaw(2, "sting1if1<2;blunt2if(not(true))");
        rightLaw(1, again(" ", 393) + "sting 1");
    }

    private static void lawConditions() {
        says("C: ALL { or ALL }; ALL: ATOM { and ATOM }");
        wrongLaw(11, "sting 1 if or true");
        wrongLaw(11, "sting 1 if and true");
        wrongLaw(16, "sting 1 if true sure");
        wrongLaw(18, "sting 1 if true or");
        wrongLaw(19, "sting 1 if true or and sure");
        wrongLaw(20, "sting 1 if true and or sure");
        wrongLaw(19, "sting 1 if true and");
        wrongLaw(20, "sting 1 if true and ;");
        says("ATOM: not ATOM | ( C ) | true | sure | SUM < SUM | SUM > SUM");
        wrongLaw(14, "sting 1 if not");
        wrongLaw(15, "sting 1 if not or true");
        wrongLaw(15, "sting 1 if not ;");
        wrongLaw(12, "sting 1 if (");
        wrongLaw(12, "sting 1 if ()");
        wrongLaw(16, "sting 1 if (true");
        wrongLaw(16, "sting 1 if (true;sting 1");
        wrongLaw(20, "sting 1 if (true or ) sure");
        wrongLaw(15, "sting 1 if true)");
        wrongLaw(17, "sting 1 if (true))");
        wrongLaw(11, "sting 1 if )");
        wrongLaw(16, "sting 1 if true < 1");
        wrongLaw(15, "sting 1 if 1 < true");
        wrongLaw(15, "sting 1 if 1 < (2)");
        wrongLaw(13, "sting 1 if 1 = 1");
        wrongLaw(14, "sting 1 if 1 <= 1");
        wrongLaw(14, "sting 1 if 1 <> 1");
        wrongLaw(17, "sting 1 if 1 < 2 < 3");
        wrongLaw(17, "sting 1 if 1 < 2 > 1");
        wrongLaw(12, "sting 1 if 1");
        wrongLaw(12, "sting 1 if 1;");
        wrongLaw(13, "sting 1 if 1 and 1 < 2");
        wrongLaw(14, "sting 1 if 1 <");
        wrongLaw(11, "sting 1 if < 1");
        says("SUM: PART { + PART }; PART: NUMBER | word | deed | doubt | night | left | who");
        rightLaw(1, "sting 1 if word + deed + doubt > night + left + who");
        wrongLaw(13, "sting 1 if 1 x");
        wrongLaw(14, "sting 1 if 1 +");
        wrongLaw(15, "sting 1 if 1 + < 1");
        wrongLaw(15, "sting 1 if 1 + + 1 < 1");
        wrongLaw(11, "sting 1 if + 1 < 1");
        wrongLaw(18, "sting 1 if 1 < 2 +");
        wrongLaw(18, "sting 1 if 1 < 2 +;");
        wrongLaw(11, "sting 1 if words < 1");
        wrongLaw(11, "sting 1 if his < 1");
        wrongLaw(13, "sting 1 if 1 - 1 < 1");
        says("( and not within one another at most 6 deep");
        rightLaw(1, "sting 1 if ((((((true))))))");
        wrongLaw(17, "sting 1 if (((((((true)))))))");
        rightLaw(1, "sting 1 if " + again("not ", 6) + "true");
        wrongLaw(35, "sting 1 if " + again("not ", 7) + "true");
        rightLaw(1, "sting 1 if not(not(not(true)))");
        wrongLaw(23, "sting 1 if not(not(not((true))))");
        wrongLaw(23, "sting 1 if not(not(not(not true)))");
        wrongLaw(17, "sting 1 if ((((((not true))))))");
        rightLaw(1, "sting 1 if ((((((true)))))) and ((((((true))))))");
        rightLaw(1, "sting 1 if " + again("not ", 6) + "true or " + again("not ", 6) + "sure");
        rightLaw(1, "sting 1 if (((((true and(true)or(true))))) and true)");
        rightLaw(2, times("sting 1 if ((((((1 < 2))))))", 2));
        String full = again("2<1 or 1<2 and(", 6) + "2<1 or 1<2 and ";
        due(6, "or and and at each depth, at last it holds", () -> ruled("sting 1 if " + full + "1<2" + again(")", 6), "word 5;friend 0").stings(0, 0));
        due(5, "or and and at each depth, at last it does not", () -> ruled("sting 1 if " + full + "2<1" + again(")", 6), "word 5;friend 0").stings(0, 0));
        wrongLaw(59, "sting 1 if ((((((true)))))) and (((((true or not true and (not true");
        says("the first wrong byte: the text's length, if more must come");
        wrongLaw(400, "sting 1 if true or" + again(" ", 382));
        wrongLaw(399, "sting 1" + again(" ", 392) + "x");
    }

    private static void lawSums() {
        says("left: how many NAMES are POSSIBLE; sure: just one NAME is POSSIBLE");
        String law = "sting 1 if sure;sting 2 if left < 1;sting 4 if left > 1";
        UnaskedName x = ruled(law, "word 0;friend 0");
        due(2, "no NAME", () -> x.stings(0, 0));
        story(x, "name a credit 1");
        due(1, "one", () -> x.stings(0, 0));
        story(x, "name b credit 1");
        due(4, "two", () -> x.stings(0, 0));
        x.crumb(0);
        due(1, "one possible of two", () -> x.stings(0, 0));
        says("sting, blunt: of a WORD of one of THE COURT: word, who: their numbers; deed: 0");
        UnaskedName y = ruled("sting 1 if word > 4;sting 2 if who > 4;sting 4 if deed > 0;blunt 8 if word + who > 9",
            times("word 10", 6) + ";" + times("friend 0", 6), times("deed 1 costs 1", 4));
        due(10, "0, 0", () -> y.stings(0, 0));
        due(11, "0, 5", () -> y.stings(0, 5));
        due(12, "5, 0", () -> y.stings(5, 0));
        due(5, "5, 5", () -> y.stings(5, 5));
        due(6, "deed is 0, not less", () -> ruled("sting 1 if deed + 1 > 0;sting 2 if deed > 0", "word 5;friend 0").stings(0, 0));
        says("true: it tells a TRAIT that HIS NAME has");
        UnaskedName z = ruled("sting 1 if true", "word 0 of a;word 0 of b;word 0;friend 0");
        due(0, "without a NAME", () -> z.stings(0, 0));
        story(z, "name a credit 1;name b credit 1");
        due(1, "a", () -> z.stings(0, 0));
        due(0, "b", () -> z.stings(0, 1));
        due(0, "none", () -> z.stings(0, 2));
        z.his(1);
        due(0, "a", () -> z.stings(0, 0));
        due(1, "b", () -> z.stings(0, 1));
        says("soothe: of a DEED: deed: its number; word, who: 0; true: does not hold");
        UnaskedName w = ruled("soothe 1 if deed > 2;soothe 2 if word + who > 0;soothe 4 if true;soothe 8 if not true;sting 20;blunt 20",
            "word 0 of a;friend 0;name a credit 1;" + times("deed 1 costs 1", 4));
        due(9, "the first", () -> w.deed(0, 2));
        due(10, "the last", () -> w.deed(3, 2));
        due(6, "word is 0, not less", () -> ruled("soothe 1 if word + 1 > 0;soothe 2 if word > 0", "deed 5 costs 1").deed(0, 2));
        due(6, "who is 0, not less", () -> ruled("soothe 1 if who + 1 > 0;soothe 2 if who > 0", "deed 5 costs 1").deed(0, 2));
        says("less that of all blunt LINES (0 at least)");
        due(0, "more than it was", () -> ruled("blunt 6", "word 5;friend 0").stings(0, 0));
        due(0, "all that it was", () -> ruled("blunt 5", "word 5;friend 0").stings(0, 0));
        due(1, "less than it was", () -> ruled("blunt 4", "word 5;friend 0").stings(0, 0));
        due(5, "one that does not hold", () -> ruled("blunt 4 if sure", "word 5;friend 0").stings(0, 0));
        due(3, "the sum, not each, is 0 at least", () -> ruled("blunt 9;sting 7", "word 5;friend 0").stings(0, 0));
        due(0, "12 lines of 20", () -> ruled(times("blunt 20", 12), "word 20;friend 0").stings(0, 0));
        due(260, "12 lines of 20", () -> ruled(times("sting 20", 12), "word 20;friend 0").stings(0, 0));
        due(260, "12 lines of 20", () -> ruled(times("soothe 20", 12), "deed 20 costs 0").deed(0, 2));
        says("SUM < SUM | SUM > SUM");
        due(5, "equal is not less", () -> ruled("sting 1 if 3 < 3", "word 5;friend 0").stings(0, 0));
        due(5, "equal is not more", () -> ruled("sting 1 if 3 > 3", "word 5;friend 0").stings(0, 0));
        due(6, "less by one", () -> ruled("sting 1 if 2 < 3", "word 5;friend 0").stings(0, 0));
        due(6, "more by one", () -> ruled("sting 1 if 3 > 2", "word 5;friend 0").stings(0, 0));
        due(6, "doubt at 99", () -> ruled("sting 1 if doubt > 98", "word 5;friend 0;doubt 99").stings(0, 0));
        String many = "sting 1 if 999" + again("+999", 90) + ">998";
        due(6, "a sum as long as the tape", () -> ruled(many, "word 5;friend 0").stings(0, 0));
    }

    // ---- words, deeds, nights ----

    private static void said() {
        says("DOUBT is more by what it STINGS by (99 at most)");
        due(98, "98", () -> told("word 18;friend 0;doubt 80;limit 99").say(0, 0));
        due(99, "99", () -> told("word 19;friend 0;doubt 80;limit 99").say(0, 0));
        due(99, "100", () -> told("word 20;friend 0;doubt 80;limit 99").say(0, 0));
        due(99, "from 0 by 260", () -> ruled(times("sting 20", 12), "word 20;friend 0").say(0, 0));
        due(99, "the log has it so", () -> { UnaskedName x = ruled(times("sting 20", 12), "word 20;friend 0"); x.say(0, 0); return x.log(0, 3); });
        says("of POSSIBLE those NAMES stay that have it, if HIS has it, those that have it not, if HIS has not");
        UnaskedName x = told("word 0 of a;word 0 of b;word 0;friend 0;name a credit 1;name ab credit 1;name b credit 1;name c credit 1");
        x.say(0, 2);
        due(15, "none is told", () -> x.count(12));
        x.say(0, 0);
        due(3, "a", () -> x.count(12));
        x.say(0, 1);
        due(1, "not b", () -> x.count(12));
        due(1, "sure", () -> x.log(0, 4));
        due(0, "no NAME", () -> { UnaskedName y = told("word 0 of a;friend 0"); y.say(0, 0); return y.log(0, 4); });
        says("She ASKS, as DOUBT is LIMIT at least: ASKED, GONE");
        due(0, "one below", () -> { UnaskedName y = told("word 9;friend 0;limit 10"); y.say(0, 0); return y.count(13); });
        due(1, "just it", () -> { UnaskedName y = told("word 10;friend 0;limit 10"); y.say(0, 0); return y.count(13); });
        due(1, "above", () -> { UnaskedName y = told("word 11;friend 0;limit 10"); y.say(0, 0); return y.count(13); });
        due(1, "99 of 99", () -> { UnaskedName y = told("word 20;friend 0;limit 99;doubt 90"); y.say(0, 0); return y.count(13); });
        says("nothing is SAID or done any more");
        refused(STATE, "say", gone(), g -> g.say(0, 0));
        refused(STATE, "does", gone(), g -> g.does(0));
        refused(STATE, "crumb", gone(), g -> g.crumb(0));
        due(0, "nights", () -> gone().nights(60));
        due(1, "doubt", () -> { UnaskedName y = gone(); y.nights(60); return y.count(7); });
        says("A DEED at night: DOUBT is less by what it EASES by (0 at least)");
        due(1, "1", () -> told("deed 9 costs 1;doubt 10").does(0));
        due(0, "0", () -> told("deed 10 costs 1;doubt 10").does(0));
        due(0, "below", () -> told("deed 11 costs 1;doubt 10").does(0));
        due(0, "from 99 by 260", () -> ruled(times("soothe 20", 12), "deed 20 costs 1;doubt 99").does(0));
        due(0, "a deed does not ask", () -> { UnaskedName y = told("deed 0 costs 1;doubt 99;limit 1"); y.does(0); return y.count(13); });
    }

    private static void nightsMore() {
        says("A NIGHT more (none comes, if he is GONE, or NIGHT is YEAR at least)");
        UnaskedName x = told("year 61");
        due(60, "60", () -> x.nights(60));
        due(1, "left", () -> x.count(16));
        due(1, "the last", () -> x.nights(60));
        due(0, "none", () -> x.nights(60));
        due(61, "night", () -> x.count(9));
        story(x, "year 62");
        due(1, "one more", () -> x.nights(2));
        story(x, "year 5");
        due(0, "night is above the year", () -> x.nights(1));
        due(0, "left", () -> x.count(16));
        due(62, "night", () -> x.count(9));
        UnaskedName draws = told("word 1;friend 0;deed 1 costs 1;year 1");
        draws.nights(1);
        int seed = draws.seed(3);
        due(0, "a night that does not come", () -> draws.nights(1));
        due(3, "draws nothing", () -> draws.seed(seed));
        UnaskedName long400 = told("year 400");
        for (int i = 0; i < 6; i++) long400.nights(60);
        due(40, "to the 400th", () -> long400.nights(60));
        due(400, "night", () -> long400.count(9));
        says("each one of THE COURT that is NEAR, by numbers, till she ASKS");
        UnaskedName y = told("word 4;word 6;friend 0;enemy 1;friend 0;talk 100;limit 10;deed 3 costs 1");
        due(1, "nights", () -> y.nights(9));
        due(2, "two spoke", () -> y.count(17));
        due(10, "no deed is done", () -> y.count(7));
        due(1, "the latest", () -> y.log(0, 1));
        due(0, "the one before", () -> y.log(1, 1));
        due(drawn(1, 2), "two draws", () -> y.seed(1));
        due(1, "NIGHT is 1 more", () -> y.count(9));
        due(0, "the row is of the night that was", () -> y.log(0, 0));
        UnaskedName away = told("word 4;word 6;friend 0;enemy 1;friend 0;talk 100");
        away.keep(1, false);
        away.nights(1);
        due(8, "those who are near", () -> away.count(7));
        due(drawn(1, 2), "two draws", () -> away.seed(1));
        says("DRAW modulo 100 below TALK");
        due(0, "talk 0", () -> { UnaskedName z = told("word 1;friend 0;talk 0"); z.nights(60); return z.count(17); });
        due(60, "talk 100", () -> { UnaskedName z = told("word 0;friend 0;talk 100"); z.nights(60); return z.count(17); });
        for (int talk = 1; talk < 100; talk += 49) {
            int t = talk;
            UnaskedName z = told("word 1;friend 0;talk " + t);
            z.seed(seedOf(t - 1));
            due(1, "one below " + t, () -> z.trial(1, false));
            z.seed(seedOf(t));
            due(0, "just " + t, () -> z.trial(1, false));
        }
        says("Then, if she did not ASK and there are DEEDS: the DEED DRAW modulo how many there are");
        UnaskedName none = told("word 0;friend 0");
        none.nights(1);
        due(drawn(1, 1), "without DEEDS no draw", () -> none.seed(1));
        for (int deed = 0; deed < 4; deed++) {
            int d = deed;
            UnaskedName z = told("deed 1 costs 1;deed 2 costs 1;deed 4 costs 1;deed 8 costs 1;doubt 20");
            int s = 1;
            while ((s * 1103515245 + 12345 >>> 16 & 32767) % 4 != d) s++;
            z.seed(s);
            z.nights(1);
            due(20 - (1 << d), "deed " + d, () -> z.count(7));
        }
    }

    /** A seed behind so many draws. */
    private static int drawn(int seed, int draws) {
        int s = seed;
        for (int i = 0; i < draws; i++) s = s * 1103515245 + 12345;
        return s;
    }

    /** A seed of which the first draw is so much modulo 100, and goes round below 0 on its way. */
    private static int seedOf(int rest) {
        for (int s = 1; s < 1000000; s++) {
            int next = drawn(s, 1);
            if (next < 0 && (next >>> 16 & 32767) % 100 == rest) return s;
        }
        throw new IllegalStateException("no such seed");
    }

    private static void seeds() {
        says("SEED is 1103515245 times SEED and 12345, as an int that goes round; bits 16 to 30 (SEED 1 at first)");
        UnaskedName x = told("word 0;friend 0;talk 50");
        due(1, "at first", () -> x.seed(1));
        for (int seed : new int[] {0, 1, -1, MIN, MAX, 2, 65536, -65536}) {
            x.seed(seed);
            int rows = x.count(17);
            x.nights(1);
            int next = drawn(seed, 1);
            due((next >>> 16 & 32767) % 100 < 50 ? 1 : 0, "whether one spoke from " + seed, () -> x.count(17) - rows);
            due(next, "seed behind " + seed, () -> x.seed(1));
        }
    }

    private static void ahead() {
        says("AHEAD by N NIGHTS (0 to 400) with a DEED, or none");
        UnaskedName x = told("word 1;word 2;friend 0;enemy 1;deed 2 costs 1;deed 3 costs 1;limit 99;year 400;doubt 7");
        due(7, "0", () -> x.ahead(0, 0));
        due(10, "1, none", () -> x.ahead(NONE, 1));
        due(8, "1, the first", () -> x.ahead(0, 1));
        due(7, "1, the last", () -> x.ahead(1, 1));
        due(7, "400", () -> x.ahead(1, 400));
        refused(ARGUMENT, "401", x, y -> y.ahead(1, 401));
        due(ARGUMENT, "-1", () -> x.ahead(NONE, -1));
        due(INDEX, "no such DEED, no such N", () -> x.ahead(2, -1));
        due(INDEX, "-2 is no DEED", () -> x.ahead(-2, 1));
        due(0, "nothing stays", () -> x.count(9) + x.count(17));
        says("(no DRAWS; none comes more, if he is GONE, or NIGHT is YEAR at least)");
        due(1, "no draws", () -> x.seed(1));
        due(13, "by the year", () -> told("word 1;friend 0;year 3;doubt 10").ahead(NONE, 400));
        due(5, "the year is over", () -> { UnaskedName y = told("word 1;friend 0;year 1;talk 0;doubt 5"); y.nights(1); return y.ahead(NONE, 1); });
        due(1, "gone", () -> gone().ahead(0, 400));
        due(12, "she asks", () -> told("word 4;friend 0;limit 10;deed 1 costs 1").ahead(NONE, 400));
        due(10, "she asks by the first of two", () -> told("word 10;friend 0;enemy 0;limit 10;deed 1 costs 1").ahead(0, 1));
        says("all who are NEAR SAY their WORD");
        x.keep(1, false);
        x.habit(0, 1);
        due(9, "one, by a new habit", () -> x.ahead(NONE, 1));
    }

    private static void acts() {
        says("HIS is told (if it is not POSSIBLE, all NAMES are again)");
        UnaskedName x = told("name a credit 1;name ab credit 1;name b credit 1");
        x.crumb(0);
        due(0, "possible: it stays", () -> x.his(1));
        due(3, "possible", () -> x.count(12));
        due(1, "not possible", () -> x.his(2));
        due(7, "all again", () -> x.count(12));
        due(2, "the same again", () -> x.his(2));
        says("a crumb: she learns of one TRAIT whether HIS has it");
        due(1, "b, not a", () -> x.crumb(0));
        due(1, "a trait that no NAME has", () -> x.crumb(5));
        says("THE LOG: the latest 60 WORDS: NIGHT, who, the WORD, DOUBT behind it, how many were POSSIBLE behind it");
        UnaskedName y = told("word 1;word 0;friend 0;enemy 1;limit 99;name a credit 1;name b credit 1");
        due(NONE, "no row", () -> y.log(0, 0));
        for (int i = 0; i < 59; i++) y.say(0, 0);
        due(59, "59 rows", () -> y.count(17));
        due(1, "the oldest of 59", () -> y.log(58, 3));
        due(NONE, "older", () -> y.log(59, 3));
        y.say(0, 0);
        due(60, "60 rows", () -> y.count(17));
        due(1, "the oldest of 60", () -> y.log(59, 3));
        y.say(1, 1);
        due(60, "60 rows", () -> y.count(17));
        due(2, "the oldest of 61 is gone", () -> y.log(59, 3));
        due(NONE, "older", () -> y.log(60, 3));
        due(60, "the latest", () -> y.log(0, 3));
        due(1, "who", () -> y.log(0, 1));
        due(1, "word", () -> y.log(0, 2));
        due(2, "possible", () -> y.log(0, 4));
        y.undo();
        due(1, "undone: the oldest is there again", () -> y.log(59, 3));
        due(0, "and the latest", () -> y.log(0, 1));
        UnaskedName z = told("word 0;friend 0;talk 100;year 400");
        for (int i = 0; i < 7; i++) z.nights(60);
        due(60, "by nights", () -> z.count(17));
        due(399, "the latest night", () -> z.log(0, 0));
        due(340, "the oldest", () -> z.log(59, 0));
    }

    // ---- questions ----

    private static void wouldAndFirst() {
        says("WOULD: DOUBT behind a WORD of one of THE COURT; how many would be POSSIBLE");
        due(99, "99 at most", () -> told("word 20;friend 0;doubt 80").would(0, 0, false));
        due(0, "no NAME", () -> told("word 20 of a;friend 0").would(0, 0, true));
        due(1, "one", () -> told("word 0 of a;friend 0;name a credit 1;name b credit 1").would(0, 0, true));
        due(2, "of one who is away", () -> { UnaskedName x = told("word 2;friend 0"); x.keep(0, false); return x.would(0, 0, false); });
        due(0, "nothing stays", () -> { UnaskedName x = told("word 9;friend 0;limit 1"); x.would(0, 0, true); return x.count(7) + x.count(13) + x.count(17) + x.count(18); });
        says("FIRST: the first N (1 to 400) AHEAD with a DEED (or none) by which she ASKED; none");
        due(1, "the first", () -> told("word 20;friend 0;limit 20").first(NONE));
        due(400, "the last", () -> ruled("sting 20 if night > 398", "word 0;friend 0;limit 20;year 400").first(NONE));
        due(NONE, "the year is over", () -> ruled("sting 20 if night > 398", "word 0;friend 0;limit 20;year 399").first(NONE));
        due(NONE, "nobody", () -> new UnaskedName().first(NONE));
        due(NONE, "a deed that keeps", () -> told("word 5;friend 0;deed 5 costs 1;limit 6").first(0));
        due(2, "none is done", () -> told("word 5;friend 0;deed 5 costs 1;limit 6").first(NONE));
        due(INDEX, "no such DEED", () -> told("word 5;friend 0;deed 5 costs 1;limit 6").first(1));
        due(INDEX, "-2", () -> told("word 5;friend 0;deed 5 costs 1;limit 6").first(-2));
        due(NONE, "doubt alone does not ask", () -> told("doubt 99;limit 1").first(NONE));
    }

    private static void sieges() {
        says("SIEGE over N NIGHTS (1 to 12) from now");
        UnaskedName x = told("word 1;enemy 0;limit 12");
        due(12, "12", () -> x.siege(12));
        due(NONE, "not in 11", () -> x.siege(11));
        due(ARGUMENT, "13", () -> x.siege(13));
        due(ARGUMENT, "0", () -> x.siege(0));
        due(NONE, "13 are needed", () -> told("word 1;enemy 0;limit 13").siege(12));
        due(1, "1", () -> told("word 12;enemy 0;limit 12").siege(1));
        says("each NIGHT some enemy who is NEAR SAYS some WORD, or none does");
        due(NONE, "a friend", () -> told("word 12;friend 0;limit 12").siege(12));
        due(NONE, "away", () -> { UnaskedName y = told("word 12;enemy 0;limit 12"); y.keep(0, false); return y.siege(12); });
        due(1, "any WORD, not the habit alone", () -> told("word 1;word 12;enemy 0;limit 12").siege(12));
        due(2, "one WORD a night", () -> told("word 6;enemy 0;enemy 0;limit 12").siege(12));
        due(2, "none does, as it gets worse", () -> ruled("sting 12 if night > 0 and doubt < 1", "word 1;enemy 0;limit 12").siege(12));
        says("she ASKS, if it was SAID and DOUBT is LIMIT at least");
        due(NONE, "none was said", () -> told("word 1;friend 0;doubt 99;limit 1").siege(12));
        due(1, "a word of no sting", () -> told("word 0;enemy 0;doubt 9;limit 9").siege(1));
        due(NONE, "no word of sting", () -> told("word 0;enemy 0;doubt 8;limit 9").siege(12));
        due(1, "99 at most", () -> told("word 20;enemy 0;doubt 90;limit 99").siege(12));
        due(1, "at 99 of 99", () -> told("word 0;enemy 0;doubt 99;limit 99").siege(12));
        says("else some DEED is done, or none; whatever DEEDS are done");
        due(NONE, "a deed that keeps", () -> told("word 5;enemy 0;limit 6;deed 5 costs 9").siege(12));
        due(2, "one that does not", () -> told("word 5;enemy 0;limit 6;deed 4 costs 9").siege(12));
        due(3, "0 at least", () -> told("word 5;enemy 0;limit 7;deed 4 costs 9").siege(12));
        due(9, "none, as the deed makes it worse", () -> ruled("sting 20 if doubt < 1", "word 1;enemy 0;limit 10;deed 20 costs 9;doubt 1").siege(12));
        due(2, "0 at least, and no less", () -> ruled("sting 5 if night > 0", "word 5;enemy 0;limit 10;deed 20 costs 9").siege(12));
        due(NONE, "it eases by the doubt behind the word", () -> ruled("soothe 5 if doubt > 4 and doubt < 6", "word 5;enemy 0;limit 6;deed 0 costs 9").siege(12));
        due(2, "not by the doubt ahead of it", () -> ruled("soothe 5 if doubt < 1", "word 5;enemy 0;limit 6;deed 0 costs 9").siege(12));
        due(NONE, "each deed by that doubt, and not by what another deed leaves", () -> ruled("soothe 3 if deed > 0 and doubt > 4", "word 5;enemy 0;limit 9;deed 1 costs 1;deed 0 costs 1").siege(2));
        due(4, "it eases by the night", () -> ruled("soothe 4 if night < 2", "word 4;enemy 0;limit 8;deed 0 costs 9").siege(12));
        due(NONE, "from a night on", () -> ruled("soothe 4 if night > 0", "word 4;enemy 0;limit 9;deed 0 costs 9").siege(12));
        says("TRAITS tell nothing in it (POSSIBLE stays as it is), NIGHT goes on; YEAR not looked at");
        due(1, "how many are possible", () -> ruled("sting 9 if left > 1", "word 1;enemy 0;limit 10;name a credit 1;name b credit 1").siege(12));
        due(1, "true", () -> ruled("sting 9 if true", "word 1 of b;enemy 0;limit 10;name a credit 1;name b credit 1;his 1").siege(12));
        due(2, "traits", () -> ruled("blunt 5 if sure", "word 5 of a;enemy 0;limit 10;name a credit 1;name b credit 1").siege(12));
        due(4, "night", () -> ruled("sting 10 if night > 2", "word 0;enemy 0;limit 10").siege(12));
        due(12, "year", () -> { UnaskedName y = told("word 1;enemy 0;limit 12;year 1;talk 0"); y.nights(1); return y.siege(12); });
        due(2, "from now", () -> { UnaskedName y = ruled("sting 10 if night > 2", "word 0;enemy 0;limit 10;talk 0"); y.nights(2); return y.siege(12); });
        says("none, if they cannot be sure of it in N, or he is GONE");
        due(NONE, "gone", () -> gone().siege(12));
        due(ARGUMENT, "gone, no such N", () -> gone().siege(13));
        due(NONE, "nobody", () -> new UnaskedName().siege(12));
    }

    private static void plans() {
        says("PLAN: 10 times the WORD and who SAYS it (the least WORD, then the least one)");
        due(ARGUMENT, "0", () -> full().plan(0));
        due(ARGUMENT, "13", () -> full().plan(13));
        due(55, "the last of the last", () -> told(times("word 0", 5) + ";word 9;" + times("friend 0", 5) + ";enemy 0;limit 9").plan(1));
        due(1, "the least WORD first", () -> told("word 9;word 9;friend 0;enemy 1;enemy 0;limit 9").plan(1));
        due(11, "the least one", () -> told("word 3;word 9;friend 0;enemy 0;enemy 0;limit 9").plan(1));
        due(2, "a lower WORD of a later one", () -> ruled("blunt 9 if word < 1 and who < 2", "word 9;word 9;friend 0;enemy 1;enemy 0;limit 9").plan(1));
        due(0, "a row that ends as soon", () -> told("word 5;word 9;enemy 0;limit 10").plan(2));
        says("none, if it does as well that nobody SAYS any, or if there is no such SIEGE");
        due(NONE, "as well", () -> ruled("sting 20 if night > 0", "word 1;enemy 0;limit 20").plan(12));
        due(0, "not as well", () -> ruled("sting 20 if night > 0", "word 1;enemy 0;limit 1").plan(12));
        due(0, "a night later it would", () -> ruled("sting 20 if night > 1", "word 10;enemy 0;limit 20").plan(12));
        due(NONE, "no siege", () -> told("word 1;enemy 0;limit 13").plan(12));
        due(NONE, "not in so many", () -> told("word 1;enemy 0;limit 12").plan(11));
        due(0, "in so many", () -> told("word 1;enemy 0;limit 12").plan(12));
        due(NONE, "gone", () -> gone().plan(12));
        due(NONE, "nobody", () -> new UnaskedName().plan(1));
    }

    private static void keeping() {
        says("KEEPS: with a told DOUBT, ahead of the DEED of this NIGHT, and N more NIGHTS (0 to 11)");
        UnaskedName x = told("word 5;enemy 0;limit 10;deed 1 costs 1;deed 4 costs 1;deed 6 costs 1");
        due(ARGUMENT, "-1", () -> x.keeps(-1, 1));
        due(ARGUMENT, "100", () -> x.keeps(100, 1));
        due(ARGUMENT, "-1 nights", () -> x.keeps(0, -1));
        due(ARGUMENT, "12 nights", () -> x.keeps(0, 12));
        due(NONE, "0 nights", () -> x.keeps(99, 0));
        due(NONE, "0 nights, and a deed would help in one", () -> x.keeps(9, 0));
        due(0, "99 of 99", () -> told("word 0;enemy 0;limit 99;deed 1 costs 1").keeps(99, 11));
        due(NONE, "4 is sure in two, so none", () -> x.keeps(4, 1));
        due(0, "5, 1", () -> x.keeps(5, 1));
        due(1, "8, 1", () -> x.keeps(8, 1));
        due(2, "9, 1", () -> x.keeps(9, 1));
        due(2, "10, 1", () -> x.keeps(10, 1));
        due(NONE, "11, 1", () -> x.keeps(11, 1));
        due(NONE, "99, 11", () -> x.keeps(99, 11));
        due(NONE, "0, 11", () -> x.keeps(0, 11));
        says("the DEED by which they are sure of it the latest, or never (of several none, then the least)");
        due(0, "later, not never", () -> told("word 5;enemy 0;limit 20;deed 1 costs 1").keeps(15, 11));
        due(1, "the latest", () -> told("word 5;enemy 0;limit 20;deed 1 costs 1;deed 3 costs 1;deed 2 costs 1").keeps(15, 11));
        due(0, "the least", () -> told("word 5;enemy 0;limit 10;deed 4 costs 1;deed 4 costs 1").keeps(5, 1));
        due(NONE, "no DEED", () -> told("word 5;enemy 0;limit 10").keeps(5, 1));
        due(NONE, "nobody", () -> new UnaskedName().keeps(99, 11));
        due(1, "the law looks at the told doubt", () -> ruled("soothe 9 if deed > 0 and doubt > 4", "word 5;enemy 0;limit 10;deed 0 costs 1;deed 0 costs 1").keeps(5, 1));
        due(1, "and not at what another deed leaves", () -> ruled("soothe 3 if deed > 0 and doubt > 4", "word 5;enemy 0;limit 9;deed 1 costs 1;deed 0 costs 1").keeps(5, 1));
        due(NONE, "and not at doubt now", () -> ruled("soothe 9 if doubt > 5", "word 5;enemy 0;limit 10;deed 0 costs 1;doubt 9").keeps(5, 1));
        due(0, "the deed is of this night", () -> ruled("soothe 9 if night < 1", "word 5;enemy 0;limit 10;deed 0 costs 1").keeps(5, 1));
        due(0, "of this night, and not of the one before", () -> { UnaskedName y = ruled("soothe 9 if night > 2", "word 5;enemy 0;limit 10;deed 0 costs 1;talk 0"); y.nights(3); return y.keeps(5, 1); });
        due(NONE, "the words are of the next", () -> ruled("blunt 5 if night > 0", "word 5;enemy 0;limit 10;deed 9 costs 1").keeps(9, 11));
    }

    private static void rowsAndSilence() {
        says("FEWEST WORDS of one of THE COURT, one behind another now: how many (at most 20); none");
        due(20, "20", () -> told("word 1;friend 0;limit 20").fewest(0));
        due(NONE, "21", () -> told("word 1;friend 0;limit 21").fewest(0));
        due(1, "1", () -> told("word 20;friend 0;limit 20").fewest(0));
        due(1, "99 at most", () -> told("word 20;friend 0;limit 99;doubt 80").fewest(0));
        due(1, "doubt is there, a word must come", () -> told("word 0;friend 0;limit 9;doubt 9").fewest(0));
        due(NONE, "no sting", () -> told("word 0;friend 0;limit 9").fewest(0));
        due(1, "at 99 of 99", () -> told("word 0;friend 0;limit 99;doubt 99").fewest(0));
        due(NONE, "at 98 of 99", () -> told("word 0;friend 0;limit 99;doubt 98").fewest(0));
        due(2, "of two ways to the same DOUBT", () -> ruled("sting 20 if sure", "word 0 of a;word 0 of b;friend 0;limit 20;name ab credit 1;name b credit 1;name c credit 1").fewest(0));
        due(2, "whichever comes first", () -> ruled("sting 20 if sure", "word 0 of b;word 0 of a;friend 0;limit 20;name ab credit 1;name a credit 1;name c credit 1").fewest(0));
        due(INDEX, "nobody", () -> new UnaskedName().fewest(0));
        due(INDEX, "NONE", () -> full().fewest(NONE));
        due(2, "TRAITS tell what they tell", () -> ruled("sting 10 if sure", "word 0 of a;word 1;friend 0;limit 10;name a credit 1;name b credit 1").fewest(0));
        due(3, "and a word less sharp is the way", () -> ruled("sting 20 if sure", "word 0 of a;word 0 of b;word 4;friend 0;limit 20;name ab credit 1;name a credit 1;name b credit 1").fewest(0));
        due(15, "of that one", () -> ruled("blunt 4 if who > 0", "word 4;word 5;friend 0;friend 0;limit 15").fewest(1));
        due(3, "of the other", () -> ruled("blunt 4 if who > 0", "word 4;word 5;friend 0;friend 0;limit 15").fewest(0));
        says("SILENCE for N NIGHTS (1 to 60): the fewest of THE COURT who are NEAR that must be kept away: of several sets the least as bits; none");
        due(ARGUMENT, "0", () -> full().silence(0));
        due(ARGUMENT, "61", () -> full().silence(61));
        due(0, "nobody", () -> new UnaskedName().silence(60));
        due(0, "59 of 60", () -> told("word 1;friend 0;limit 60").silence(59));
        due(1, "60 of 60", () -> told("word 1;friend 0;limit 60").silence(60));
        due(0, "60 of 61", () -> told("word 1;friend 0;limit 61").silence(60));
        due(0, "the year is over by then", () -> told("word 1;friend 0;limit 60;year 59").silence(60));
        due(1, "the least of several", () -> told("word 5;" + times("friend 0", 3) + ";limit 15").silence(1));
        due(4, "one alone helps", () -> told("word 5;word 9;friend 0;friend 0;enemy 1;limit 14").silence(1));
        due(63, "all", () -> told("word 5;" + times("friend 0", 6) + ";limit 5").silence(1));
        due(3, "two before four, the least", () -> told("word 5;" + times("friend 0", 4) + ";limit 15").silence(1));
        due(2, "one who is away is not kept away", () -> { UnaskedName x = told("word 5;" + times("friend 0", 3) + ";limit 10"); x.keep(0, false); return x.silence(1); });
        due(0, "no word is said, whatever DOUBT is", () -> { UnaskedName x = told("word 5;friend 0;limit 1;doubt 99"); x.keep(0, false); return x.silence(60); });
        due(0, "no DEED", () -> told("deed 1 costs 1").silence(60));
        due(1, "no DEED soothes in it", () -> told("word 5;friend 0;deed 20 costs 0;limit 10").silence(2));
        due(NONE, "gone", () -> gone().silence(1));
    }

    private static void traits() {
        says("CRUMB: the TRAIT by which the greater part is the least (of several the least; none with fewer than two)");
        due(NONE, "no NAME", () -> new UnaskedName().best());
        due(NONE, "one", () -> told("name a credit 1").best());
        due(5, "two", () -> told("name abcdef credit 1;name abcde credit 1").best());
        due(0, "the least", () -> told("name ab credit 1;name c credit 1").best());
        due(0, "nothing parts them", () -> told("name ab credit 1;name ab credit 1").best());
        due(2, "3 and 2", () -> told("name abc credit 1;name c credit 1;name d credit 1;name e credit 1;name f credit 1").best());
        due(NONE, "one possible", () -> { UnaskedName x = told("name a credit 1;name b credit 1"); x.crumb(0); return x.best(); });
        says("LEARNS: the fewest TRAITS that, told of HIS, leave just HIS possible: of several sets the least as bits; none");
        due(NONE, "no NAME", () -> new UnaskedName().learns());
        due(0, "one", () -> told("name a credit 1").learns());
        due(1, "the least", () -> told("name ab credit 1;name c credit 1").learns());
        due(32, "f", () -> told("name abcdef credit 1;name abcde credit 1").learns());
        due(NONE, "alike", () -> told("name ab credit 1;name ba credit 1;name c credit 1").learns());
        due(2, "others alike", () -> told("name ab credit 1;name ac credit 1;name ca credit 1").learns());
        due(63, "all six", () -> told("name abcdef credit 1;name bcdef credit 1;name acdef credit 1;name abdef credit 1;name abcef credit 1;name abcdf credit 1;name abcde credit 1").learns());
        due(5, "two of least bits", () -> told("name ac credit 1;name a credit 1;name c credit 1").learns());
        says("WORST: the fewest crumbs by which one NAME alone is left, whichever it is; none (0 with fewer than two)");
        due(0, "no NAME", () -> new UnaskedName().worst());
        due(0, "one", () -> told("name a credit 1").worst());
        due(1, "two", () -> told("name a credit 1;name b credit 1").worst());
        due(NONE, "alike", () -> told("name a credit 1;name a credit 1").worst());
        due(0, "alike, not possible", () -> { UnaskedName x = told("name b credit 1;name a credit 1;name a credit 1"); x.crumb(0); return x.worst(); });
        due(2, "four", () -> told("name a credit 1;name ab credit 1;name b credit 1;name c credit 1").worst());
        due(6, "seven, one by one", () -> told("name abcdef credit 1;name bcdef credit 1;name acdef credit 1;name abdef credit 1;name abcef credit 1;name abcdf credit 1;name abcde credit 1").worst());
        due(2, "one asked by what the ones before told", () -> told("name ab credit 1;name a credit 1;name c credit 1;name d credit 1").worst());
        says("HIDES: TRAITS that would leave fewer POSSIBLE, if she learnt of them, as bits");
        due(0, "no NAME", () -> new UnaskedName().hides());
        due(0, "one", () -> told("name a credit 1").hides());
        due(63, "all", () -> told("name abc credit 1;name def credit 1").hides());
        due(32, "f", () -> told("name abcdef credit 1;name abcde credit 1").hides());
        says("ALIKE: pairs of NAMES with the same TRAITS: how many");
        due(0, "no NAME", () -> new UnaskedName().alike());
        due(0, "none", () -> told("name a credit 1;name b credit 1").alike());
        due(1, "ab, ba", () -> told("name ab credit 1;name ba credit 2").alike());
        due(45, "all ten", () -> told(times("name a credit 1", 10)).alike());
        due(1, "possible or not", () -> { UnaskedName x = told("name b credit 1;name a credit 1;name a credit 1"); x.crumb(0); return x.alike(); });
    }

    private static void beliefs() {
        says("BELIEF in a NAME: ten thousandths, rounded down (0, if it is not POSSIBLE)");
        UnaskedName x = told("name a credit 1;name b credit 1;name c credit 1");
        due(3333, "a third", () -> x.name(0, 3));
        due(6666, "two thirds", () -> told("name a credit 2;name b credit 1").name(0, 3));
        due(10000, "all", () -> told("name a credit 7").name(0, 3));
        x.crumb(0);
        due(10000, "it alone", () -> x.name(0, 3));
        due(0, "not possible", () -> x.name(1, 3));
        says("in a TRAIT: of all POSSIBLE ones that have it, together, likewise");
        due(0, "no NAME", () -> new UnaskedName().belief(5));
        due(INDEX, "6", () -> full().belief(6));
        due(INDEX, "-1", () -> full().belief(-1));
        due(10000, "all have it", () -> told("name af credit 1;name bf credit 2").belief(5));
        due(6666, "together, not each rounded down", () -> told("name a credit 1;name ab credit 1;name b credit 1").belief(0));
        due(0, "one that is not possible", () -> x.belief(1));
        says("LIKELIEST: the POSSIBLE NAME of the most CREDIT (of several the least; none)");
        due(NONE, "no NAME", () -> new UnaskedName().likeliest());
        due(0, "the least", () -> told("name a credit 3;name b credit 3").likeliest());
        due(1, "the most", () -> told("name a credit 3;name b credit 4").likeliest());
        due(0, "possible", () -> { UnaskedName y = told("name a credit 3;name b credit 4"); y.crumb(0); return y.likeliest(); });
        says("SHARED: TRAITS that all POSSIBLE NAMES have, as bits (0 without)");
        due(0, "no NAME", () -> new UnaskedName().shared());
        due(63, "one", () -> told("name abcdef credit 1").shared());
        due(2, "two", () -> told("name ab credit 1;name bc credit 1").shared());
        due(0, "none", () -> told("name a credit 1;name b credit 1").shared());
        due(1, "possible", () -> { UnaskedName y = told("name a credit 1;name b credit 1"); y.crumb(1); return y.shared(); });
        says("SIMILAR to a NAME by K (0 to 6): all other NAMES that differ from it in K TRAITS at most, as bits");
        UnaskedName z = told("name abc credit 1;name def credit 1;name cba credit 1;name ab credit 1");
        due(4, "0", () -> z.similar(0, 0));
        due(12, "1", () -> z.similar(0, 1));
        due(12, "5", () -> z.similar(0, 5));
        due(14, "6", () -> z.similar(0, 6));
        due(13, "of the second", () -> z.similar(1, 6));
        due(0, "the second by 4", () -> z.similar(1, 4));
        due(8, "the second by 5", () -> z.similar(1, 5));
        due(ARGUMENT, "7", () -> z.similar(0, 7));
        due(ARGUMENT, "-1", () -> z.similar(0, -1));
        due(INDEX, "no such NAME, no such K", () -> z.similar(4, 7));
    }

    private static void duties() {
        says("COVER: the fewest SEALS that do each DUTY: of several the least as bits");
        due(0, "no DUTY", () -> new UnaskedName().cover());
        due(1, "the least", () -> told("duty fa").cover());
        due(32, "f", () -> told("duty f;duty af;duty ef").cover());
        due(3, "the least of several twos", () -> told("duty af;duty be").cover());
        due(63, "all", () -> told("duty a;duty b;duty c;duty d;duty e;duty f").cover());
        due(8, "one before two of less bits", () -> told("duty ad;duty bd").cover());
        says("ALONE: SEALS without which, if all others are there, some DUTY is not done, as bits");
        due(0, "no DUTY", () -> new UnaskedName().alone());
        due(0, "each has two", () -> told("duty ab;duty bc").alone());
        due(34, "b, f", () -> told("duty b;duty f;duty bf;duty ac").alone());
        says("DOES: DUTIES that a set of SEALS does, as bits; of none they count for nothing");
        UnaskedName x = told("duty a;duty b;duty c;duty d;duty e;duty f;duty ab;duty ef");
        due(0, "none", () -> x.seals(0));
        due(65, "a", () -> x.seals(1));
        due(160, "f", () -> x.seals(32));
        due(255, "all", () -> x.seals(63));
        due(0, "64", () -> x.seals(64));
        due(65, "65", () -> x.seals(65));
        due(0, "MIN", () -> x.seals(MIN));
        due(255, "MAX", () -> x.seals(MAX));
        due(255, "-1", () -> x.seals(-1));
        due(0, "no DUTY", () -> new UnaskedName().seals(63));
    }

    private static void logQuestions() {
        says("BEGAN: above half of LIMIT (rounded down): how many rows ago (0 the latest); none");
        due(NONE, "no row", () -> new UnaskedName().began());
        due(NONE, "5 of 10", () -> spoken("limit 10", 5).began());
        due(0, "6 of 10", () -> spoken("limit 10", 6).began());
        due(0, "6 of 11", () -> spoken("limit 11", 6).began());
        due(NONE, "5 of 11", () -> spoken("limit 11", 5).began());
        due(0, "1 of 1", () -> spoken("limit 1", 1).began());
        due(NONE, "0 of 1", () -> told("word 0;friend 0;limit 1").began());
        due(2, "6, 7, 8 of 10", () -> spoken("limit 10", 8).began());
        due(59, "all 60", () -> { UnaskedName x = told("word 0;word 1;friend 0;limit 99;doubt 60"); for (int i = 0; i < 70; i++) x.say(0, 0); return x.began(); });
        due(0, "one below between", () -> { UnaskedName x = told("word 3;friend 0;limit 10;deed 9 costs 1"); x.say(0, 0); x.say(0, 0); x.does(0); x.say(0, 0); x.say(0, 0); return x.began(); });
        due(NONE, "a deed makes no row", () -> { UnaskedName x = spoken("limit 10", 6); story(x, "limit 12"); return x.began(); });
        says("LOUDEST: the most rows of THE LOG have a DOUBT that is greater than that of all older rows of it (of several the least; none without such a row)");
        due(NONE, "no row", () -> full().loudest());
        due(0, "the oldest row, of a DOUBT of 0", () -> { UnaskedName x = told("word 0;friend 0"); x.say(0, 0); return x.loudest(); });
        UnaskedName y = told("word 1;word 0;friend 0;friend 0;deed 20 costs 1;limit 99");
        y.say(1, 0);
        due(1, "one row", y::loudest);
        y.say(0, 1);
        due(1, "no greater", y::loudest);
        y.say(0, 0);
        due(0, "one each", y::loudest);
        y.does(0);
        y.say(1, 0);
        due(0, "greater than the one before, not than all", y::loudest);
        UnaskedName z = told("word 1;word 0;friend 0;friend 0;limit 99");
        z.say(0, 0);
        for (int i = 0; i < 60; i++) z.say(1, 1);
        due(1, "of the latest 60", z::loudest);
        says("LED: how many rows of THE LOG are of one of THE COURT and a WORD (of any WORD, if none is told)");
        due(0, "older rows are none", () -> z.led(0, NONE));
        due(60, "any", () -> z.led(1, NONE));
        due(60, "1", () -> z.led(1, 1));
        due(0, "0", () -> z.led(1, 0));
        due(INDEX, "-2", () -> z.led(1, -2));
        due(INDEX, "2", () -> z.led(1, 2));
        due(INDEX, "nobody", () -> z.led(2, NONE));
        due(INDEX, "nobody", () -> new UnaskedName().led(0, NONE));
    }

    /** A word of 1, said so many times. */
    private static UnaskedName spoken(String line, int words) {
        UnaskedName x = told("word 1;friend 0;" + line);
        for (int i = 0; i < words; i++) x.say(0, 0);
        return x;
    }

    private static void fitsAndDeeds() {
        says("FITS: pairs of one of THE COURT (NEAR or not) and a WORD that would raise DOUBT now by just so much");
        UnaskedName x = told("word 0;word 5;word 20;friend 0;enemy 0");
        due(2, "0", () -> x.fits(0));
        due(2, "20", () -> x.fits(20));
        due(0, "1", () -> x.fits(1));
        due(0, "-1", () -> x.fits(-1));
        due(0, "MIN", () -> x.fits(MIN));
        due(0, "MAX", () -> x.fits(MAX));
        x.keep(0, false);
        due(2, "near or not", () -> x.fits(5));
        due(0, "nobody", () -> told("word 0").fits(0));
        due(36, "all", () -> told(times("word 7", 6) + ";" + times("friend 0", 6)).fits(7));
        due(6, "99 already", () -> { story(x, "doubt 99"); return x.fits(0); });
        says("CHEAPEST for N (0 to 99): of which COSTS together are the least (of several the least as bits); how much; none");
        UnaskedName y = told("deed 5 costs 3;deed 5 costs 3;deed 9 costs 6;deed 1 costs 0;doubt 10");
        due(ARGUMENT, "-1", () -> y.cheapest(-1, true));
        due(ARGUMENT, "100", () -> y.cheapest(100, false));
        due(0, "99", () -> y.cheapest(99, false));
        due(0, "10", () -> y.cheapest(10, true));
        due(8, "9", () -> y.cheapest(9, false));
        due(0, "9", () -> y.cheapest(9, true));
        due(1, "5", () -> y.cheapest(5, false));
        due(3, "5", () -> y.cheapest(5, true));
        due(9, "4", () -> y.cheapest(4, false));
        due(3, "0: two of 3 as well as one of 6 and the one of 0", () -> y.cheapest(0, false));
        due(6, "0", () -> y.cheapest(0, true));
        due(NONE, "not by all", () -> told("deed 5 costs 3;doubt 6").cheapest(0, false));
        due(NONE, "not by all", () -> told("deed 5 costs 3;doubt 6").cheapest(0, true));
        due(0, "no DEED, no DOUBT", () -> new UnaskedName().cheapest(0, false));
        due(NONE, "no DEED", () -> told("doubt 1").cheapest(0, true));
        due(36, "all of them", () -> told(times("deed 5 costs 9", 4) + ";doubt 20").cheapest(0, true));
        due(15, "all of them", () -> told(times("deed 5 costs 9", 4) + ";doubt 20").cheapest(0, false));
        due(3, "by numbers, each by what DOUBT is then", () -> ruled("soothe 9 if deed > 0 and doubt < 10", "deed 1 costs 1;deed 1 costs 1;doubt 10").cheapest(0, false));
        due(NONE, "not the other way", () -> ruled("soothe 9 if deed < 1 and doubt < 10", "deed 1 costs 1;deed 1 costs 1;doubt 10").cheapest(0, false));
        due(10, "nothing stays", () -> y.count(7));
        says("SHARPEST of one: the WORD that STINGS by the most now (of several the least; none)");
        due(0, "the least", () -> told("word 4;word 4;friend 0").sharpest(0));
        due(1, "the most", () -> told("word 4;word 5;friend 0").sharpest(0));
        due(0, "none stings", () -> ruled("blunt 20", "word 4;word 5;friend 0").sharpest(0));
        due(INDEX, "nobody", () -> told("word 4").sharpest(0));
        due(INDEX, "-1", () -> full().sharpest(-1));
    }

    private static void learntAndTrials() {
        says("LEARNT with a DEED (or none): the first N (0 to 400) AHEAD by which just one NAME is POSSIBLE; none");
        due(NONE, "no NAME", () -> new UnaskedName().learnt(NONE));
        due(0, "one", () -> told("name a credit 1").learnt(NONE));
        due(1, "a word", () -> told("word 1 of a;friend 0;name a credit 1;name b credit 1").learnt(NONE));
        due(NONE, "she asks ahead of it", () -> told("word 9;word 1 of a;friend 0;friend 1;name a credit 1;name b credit 1;limit 9").learnt(NONE));
        due(1, "she asks by it", () -> told("word 9 of a;friend 0;name a credit 1;name b credit 1;limit 9").learnt(NONE));
        due(NONE, "alike", () -> told("word 1 of a;friend 0;name a credit 1;name a credit 1").learnt(NONE));
        due(NONE, "away", () -> { UnaskedName x = told("word 1 of a;friend 0;name a credit 1;name b credit 1"); x.keep(0, false); return x.learnt(NONE); });
        due(NONE, "the year is over", () -> { UnaskedName x = told("word 1 of a;friend 0;name a credit 1;name b credit 1;year 1;talk 0"); x.nights(1); return x.learnt(NONE); });
        due(INDEX, "no DEED", () -> new UnaskedName().learnt(0));
        due(INDEX, "-2", () -> full().learnt(-2));
        due(INDEX, "4", () -> full().learnt(4));
        says("TRIAL of N NIGHTS (0 to 60) from now (draws, too; nothing stays): DOUBT then; 1 if she ASKED");
        UnaskedName y = told("word 1;friend 0;talk 100;limit 60;name a credit 1");
        due(ARGUMENT, "-1", () -> y.trial(-1, false));
        due(ARGUMENT, "61", () -> y.trial(61, false));
        due(0, "0", () -> y.trial(0, false));
        due(59, "59", () -> y.trial(59, false));
        due(0, "59", () -> y.trial(59, true));
        due(60, "60", () -> y.trial(60, false));
        due(1, "60", () -> y.trial(60, true));
        String before = picture(y);
        y.trial(60, true);
        tell("nothing stays", picture(y), before);
        due(2, "by the year", () -> told("word 1;friend 0;talk 100;year 2").trial(60, false));
        due(1, "gone", () -> gone().trial(60, true));
        UnaskedName z = told("word 3;friend 0;enemy 0;deed 2 costs 1;deed 4 costs 1;limit 99");
        for (int seed : new int[] {0, 5, -7, MIN, MAX}) {
            z.seed(seed);
            int trial = z.trial(17, false);
            z.nights(17);
            due(trial, "as the nights from seed " + seed, () -> z.count(7));
            z.undo();
        }
        says("SPAN: in how many of the TRIALS from SEED 1, 2, .. 6 she ASKED");
        due(ARGUMENT, "-1", () -> y.span(-1));
        due(ARGUMENT, "61", () -> y.span(61));
        due(0, "0", () -> y.span(0));
        due(0, "59", () -> y.span(59));
        due(6, "60", () -> y.span(60));
        due(0, "nobody", () -> new UnaskedName().span(60));
        UnaskedName w = told("word 5;friend 0;enemy 0;limit 10;deed 4 costs 0;deed 1 costs 0");
        for (int nights = 1; nights <= 4; nights++) {
            int n = nights;
            int in = 0;
            for (int seed = 1; seed <= 6; seed++) {
                w.seed(seed);
                in += w.trial(n, true);
            }
            w.seed(44);
            int want = in;
            due(want, n + " nights", () -> w.span(n));
            due(44, "the seed stays", () -> w.seed(1));
        }
        says("LEFT: NIGHTS till YEAR (0 at least)");
        due(365, "at first", () -> new UnaskedName().count(16));
        due(0, "below", () -> { UnaskedName v = new UnaskedName(); v.nights(9); story(v, "year 3"); return v.count(16); });
    }

    // ---- going back ----

    private static void undone() {
        says("UNDONE: the latest ACT not undone yet (12 are remembered; NIGHTS of one call are one)");
        due(0, "none", () -> n(new UnaskedName().undo()));
        UnaskedName x = told("word 1;friend 0;limit 99");
        for (int i = 0; i < 12; i++) x.say(0, 0);
        due(12, "12", () -> x.count(18));
        x.say(0, 0);
        due(12, "of 13", () -> x.count(18));
        for (int i = 12; i >= 1; i--) {
            int k = i;
            due(1, "undo", () -> n(x.undo()));
            due(k, "doubt", () -> x.count(7));
            due(k - 1, "more", () -> x.count(18));
        }
        due(0, "the 13th is not remembered", () -> n(x.undo()));
        due(1, "doubt", () -> x.count(7));
        for (int i = 0; i < 30; i++) {
            x.say(0, 0);
            if (i % 3 == 2) x.undo();
        }
        due(21, "acts and undone ones, round and round", () -> x.count(7));
        for (int i = 0; i < 20; i++) x.undo();
        due(10, "12, less the one that was undone last", () -> x.count(7));
        says("all is as ahead of it");
        eachActUndone();
        UnaskedName y = told("word 1;friend 0;talk 100");
        y.nights(60);
        due(1, "nights of one call", () -> y.count(18));
        y.undo();
        due(0, "night", () -> y.count(9) + y.count(7) + y.count(17));
        due(1, "seed", () -> y.seed(1));
        says("(but for the TAPE, fault(), THE IMAGE)");
        UnaskedName z = told("word 1;friend 0");
        z.say(0, 0);
        due(ARGUMENT, "wrong", () -> story(z, "x"));
        z.image();
        tape(z, "talk 9");
        z.undo();
        due(0, "fault", z::fault);
        due(1, "the tape", () -> n(z.end(6)));
        due(1, "the image", () -> n(z.back()));
        due(1, "it is of then", () -> z.count(7));
        says("A text, going back: none are remembered");
        UnaskedName w = told("word 1;friend 0");
        w.image();
        w.say(0, 0);
        due(2, "a text", () -> story(w, ""));
        due(0, "none", () -> n(w.undo()));
        w.say(0, 0);
        due(0, "a law", () -> law(w, ""));
        due(0, "none", () -> n(w.undo()));
        w.say(0, 0);
        due(1, "back", () -> n(w.back()));
        due(0, "none", () -> n(w.undo()));
        w.say(0, 0);
        due(ARGUMENT, "a wrong text", () -> story(w, "x"));
        due(ARGUMENT, "a wrong law", () -> law(w, "x"));
        due(1, "forgets none", () -> n(w.undo()));
        w.say(0, 0);
        w.image();
        w.feed(0, 0, 0, 0, 0);
        w.end(0);
        w.seed(5);
        due(1, "image, feed, end, seed are no acts", () -> w.count(18));
    }

    private static void eachActUndone() {
        String[] what = {"say", "does", "keep", "keep of no change", "habit", "his", "crumb", "nights", "say that asks"};
        On[] acts = {x -> x.say(0, 1), x -> x.does(0), x -> n(x.keep(0, false)), x -> n(x.keep(0, true)), x -> x.habit(0, 1),
            x -> x.his(2), x -> x.crumb(1), x -> x.nights(3), x -> x.say(0, 5)};
        for (int i = 0; i < acts.length; i++) {
            UnaskedName x = told("word 1;word 2 of a;word 3;word 4;word 5;word 20;friend 0;enemy 2;deed 1 costs 1;limit 30;doubt 10",
                "name ab credit 1;name a credit 1;name b credit 1;name c credit 1;talk 60");
            x.say(1, 0);
            x.crumb(0);
            String before = picture(x);
            acts[i].go(x);
            yes(what[i] + " is remembered", x.count(18) == 3);
            x.undo();
            tell(what[i] + " undone", picture(x), before);
        }
    }

    private static void images() {
        says("One goes back to THE IMAGE: true; false, and nothing happens, if none was kept");
        UnaskedName x = told("word 1;friend 0");
        x.say(0, 0);
        String before = picture(x);
        due(0, "none was kept", () -> n(x.back()));
        tell("nothing happens", picture(x), before);
        says("THE IMAGE (one) of all may be kept, and gone back to (but for the TAPE, fault() and THE IMAGE itself)");
        UnaskedName y = told("word 1;word 2 of a;word 3;" + times("friend 2", 4) + ";deed 1 costs 1;duty a",
            "name a credit 1;name b credit 1;name c credit 1;name d credit 1;name e credit 1");
        law(y, "sting 1;soothe 2");
        y.seed(77);
        y.say(3, 1);
        y.keep(2, false);
        y.undo();
        y.undo();
        String kept = picture(y);
        y.image();
        story(y, "talk 1;limit 9;year 9;doubt 3;his 4");
        law(y, "");
        y.nights(4);
        tape(y, "talk 9");
        due(1, "back", () -> n(y.back()));
        due(1, "the tape", () -> n(y.end(6)));
        tell("all is as it was", picture(y), kept);
        y.say(0, 2);
        due(1, "and again", () -> n(y.back()));
        tell("all is as it was", picture(y), kept);
        UnaskedName z = told("word 1;friend 0");
        z.image();
        z.say(0, 0);
        z.image();
        z.say(0, 0);
        due(1, "back", () -> n(z.back()));
        due(1, "there is one image, the latest", () -> z.count(7));
        UnaskedName g = told("word 1;friend 0;limit 1");
        g.image();
        g.say(0, 0);
        due(1, "asked", () -> g.count(13));
        g.back();
        due(0, "not asked", () -> g.count(13));
        g.say(0, 0);
        g.image();
        g.undo();
        due(0, "undone", () -> g.count(13));
        g.back();
        due(1, "an image of one who is gone", () -> g.count(13));
        UnaskedName e = new UnaskedName();
        e.image();
        story(e, "name a credit 1;word 1;friend 0");
        e.back();
        tell("an image of nothing", picture(e), picture(new UnaskedName()));
    }

    // ---- the tape ----

    private static void tapes() {
        says("Twenty bytes come behind the TAPE: how many it has; NONE, and none come, if it would have more than 400");
        UnaskedName x = new UnaskedName();
        for (int i = 1; i <= 20; i++) {
            int k = 20 * i;
            due(k, "feed", () -> x.feed(0x20202020, 0x20202020, 0x20202020, 0x20202020, 0x20202020));
        }
        due(NONE, "420", () -> x.feed(0, 0, 0, 0, 0));
        due(0, "none came", () -> n(x.end(401)));
        due(1, "none of it stands at the end", x::story);
        due(20, "the tape is used up", () -> x.feed(0, 0, 0, 0, 0));
        UnaskedName y = new UnaskedName();
        for (int i = 0; i < 20; i++) y.feed(0x20202020, 0x20202020, 0x20202020, 0x20202020, 0x20202020);
        y.end(381);
        due(NONE, "401", () -> y.feed(0, 0, 0, 0, 0));
        due(1, "381 stay", () -> n(y.end(381)));
        due(0, "and no more", () -> n(y.end(382)));
        y.end(380);
        due(400, "400", () -> y.feed(0x20202020, 0x20202020, 0x20202020, 0x20202020, 0x20202078));
        due(ARGUMENT, "the last byte counts", y::story);
        due(399, "fault", y::fault);
        says("of each number the highest first");
        UnaskedName z = new UnaskedName();
        z.feed(0x74616c6b, 0x20372020, 0x3b206c69, 0x6d697420, 0x39202020);
        due(1, "talk 7; limit 9", z::story);
        due(79, "read", () -> z.count(14) * 10 + z.count(8));
        z.feed(0x20202020, 0xa0202020, 0, 0, 0);
        due(ARGUMENT, "a byte above 127", z::story);
        due(4, "fault", z::fault);
        says("The TAPE has its first n bytes alone: true; false, and nothing happens, if it has fewer, or n is below 0");
        UnaskedName w = new UnaskedName();
        due(1, "0 of 0", () -> n(w.end(0)));
        due(0, "1 of 0", () -> n(w.end(1)));
        w.feed(0x74616c6b, 0x20372020, 0x20202020, 0x20202020, 0x20202020);
        due(0, "21", () -> n(w.end(21)));
        due(0, "-1", () -> n(w.end(-1)));
        due(0, "MIN", () -> n(w.end(MIN)));
        due(0, "MAX", () -> n(w.end(MAX)));
        due(1, "20", () -> n(w.end(20)));
        due(1, "6", () -> n(w.end(6)));
        due(0, "7", () -> n(w.end(7)));
        due(26, "behind the first 6", () -> w.feed(0x30202020, 0x20202020, 0x20202020, 0x20202020, 0x20202020));
        due(1, "talk 70", w::story);
        due(70, "talk", () -> w.count(14));
        due(1, "0 of 0 again", () -> n(w.end(0)));
        due(20, "feed", () -> w.feed(0x74616c6b, 0x20387820, 0, 0, 0));
        due(1, "cut ahead of the wrong byte", () -> n(w.end(6)));
        due(2, "talk 8", w::story);
    }

    // ---- who may be asked for what ----

    private static final int[] NUMBERS = {MIN, MIN + 1, -65536, -2, -1, 0, 1, 3, 4, 5, 6, 7, 8, 9, 10, 11, 12, 13, 18, 19, 20, 31,
        32, 33, 59, 60, 61, 63, 64, 99, 100, 399, 400, 401, 65536, MAX - 1, MAX};

    private static boolean in(int n, int low, int high) { return n >= low && n <= high; }

    /** For every number at and about an edge: the exception that the document tells first, or none. */
    private static void allNumbers(String kind, Supplier<UnaskedName> make) {
        UnaskedName y = make.get();
        int names = y.count(0);
        int court = y.count(1);
        int words = y.count(2);
        int deeds = y.count(3);
        int duties = y.count(4);
        boolean gone = y.count(13) == 1;
        for (int a : NUMBERS) {
            says(kind + ", " + a);
            one(make, "his", in(a, 0, names - 1) ? 0 : INDEX, x -> x.his(a));
            one(make, "duty", in(a, 0, duties - 1) ? 0 : INDEX, x -> x.duty(a));
            one(make, "crumb", !in(a, 0, 5) ? INDEX : gone || names == 0 ? STATE : 0, x -> x.crumb(a));
            one(make, "belief", in(a, 0, 5) ? 0 : INDEX, x -> x.belief(a));
            one(make, "does", !in(a, 0, deeds - 1) ? INDEX : gone ? STATE : 0, x -> x.does(a));
            one(make, "keep", in(a, 0, court - 1) ? 0 : INDEX, x -> n(x.keep(a, false)));
            one(make, "fewest", in(a, 0, court - 1) ? 0 : INDEX, x -> x.fewest(a));
            one(make, "sharpest", in(a, 0, court - 1) ? 0 : INDEX, x -> x.sharpest(a));
            one(make, "first", in(a, NONE, deeds - 1) ? 0 : INDEX, x -> x.first(a));
            one(make, "learnt", in(a, NONE, deeds - 1) ? 0 : INDEX, x -> x.learnt(a));
            one(make, "nights", in(a, 1, 60) ? 0 : ARGUMENT, x -> x.nights(a));
            one(make, "silence", in(a, 1, 60) ? 0 : ARGUMENT, x -> x.silence(a));
            one(make, "siege", in(a, 1, 12) ? 0 : ARGUMENT, x -> x.siege(a));
            one(make, "plan", in(a, 1, 12) ? 0 : ARGUMENT, x -> x.plan(a));
            one(make, "trial", in(a, 0, 60) ? 0 : ARGUMENT, x -> x.trial(a, true));
            one(make, "span", in(a, 0, 60) ? 0 : ARGUMENT, x -> x.span(a));
            one(make, "cheapest", in(a, 0, 99) ? 0 : ARGUMENT, x -> x.cheapest(a, true));
            one(make, "word", in(a, 0, words - 1) ? 0 : INDEX, x -> x.word(a, true));
            one(make, "seals", 0, x -> x.seals(a));
            one(make, "fits", 0, x -> x.fits(a));
            one(make, "seed", 0, x -> { x.seed(a); return x.seed(a) == a ? 0 : OTHER; });
            one(make, "end", 0, x -> n(x.end(a)));
            one(make, "count", 0, x -> in(a, 0, 18) || x.count(a) == NONE ? x.count(a) : OTHER);
            for (int b : NUMBERS) twoNumbers(make, a, b, names, court, words, deeds, gone);
        }
    }

    private static void twoNumbers(Supplier<UnaskedName> make, int a, int b, int names, int court, int words, int deeds, boolean gone) {
        boolean pair = in(a, 0, court - 1) && in(b, 0, words - 1);
        one(make, b + " name", !in(a, 0, names - 1) ? INDEX : !in(b, 0, 3) ? ELEMENT : 0, x -> x.name(a, b));
        one(make, b + " court", !in(a, 0, court - 1) ? INDEX : !in(b, 0, 2) ? ELEMENT : 0, x -> x.court(a, b));
        one(make, b + " deed", !in(a, 0, deeds - 1) ? INDEX : !in(b, 0, 2) ? ELEMENT : 0, x -> x.deed(a, b));
        one(make, b + " stings", pair ? 0 : INDEX, x -> x.stings(a, b));
        one(make, b + " say", !pair ? INDEX : gone ? STATE : 0, x -> x.say(a, b));
        one(make, b + " habit", pair ? 0 : INDEX, x -> x.habit(a, b));
        one(make, b + " would", pair ? 0 : INDEX, x -> x.would(a, b, true));
        one(make, b + " led", in(a, 0, court - 1) && in(b, NONE, words - 1) ? 0 : INDEX, x -> x.led(a, b));
        one(make, b + " ahead", !in(a, NONE, deeds - 1) ? INDEX : !in(b, 0, 400) ? ARGUMENT : 0, x -> x.ahead(a, b));
        one(make, b + " similar", !in(a, 0, names - 1) ? INDEX : !in(b, 0, 6) ? ARGUMENT : 0, x -> x.similar(a, b));
        one(make, b + " keeps", in(a, 0, 99) && in(b, 0, 11) ? 0 : ARGUMENT, x -> x.keeps(a, b));
        one(make, b + " log", in(b, 0, 4) ? 0 : ELEMENT, x -> x.log(a, b));
    }

    private static UnaskedName shared = null;
    private static String sharedPicture = "";
    private static int sharedCalls = 0;

    /** Calls that are due to throw go to one object, which they may not change, as long as it has calls left. */
    private static void one(Supplier<UnaskedName> make, String what, int exception, On call) {
        if (exception == 0) {
            int got = answer(() -> call.go(make.get()));
            yes(what + " answers, and does not throw " + got, got > INDEX);
            return;
        }
        if (shared == null) {
            shared = make.get();
            sharedPicture = picture(shared);
            sharedCalls = 0;
        }
        UnaskedName x = shared;
        due(exception, what, () -> call.go(x));
        sharedCalls++;
        if (sharedCalls >= 100) stillTheSame();
    }

    private static void stillTheSame() {
        if (shared != null) tell("calls that throw change nothing", picture(shared), sharedPicture);
        shared = null;
    }

    private static void refusals() {
        allNumbers("nothing is there", UnaskedName::new);
        stillTheSame();
        allNumbers("all is there", UnaskedNameEdges::full);
        stillTheSame();
        allNumbers("he is gone", UnaskedNameEdges::gone);
        stillTheSame();
        says("IllegalStateException: he is GONE, or that one is kept away");
        UnaskedName x = full();
        x.keep(3, false);
        refused(STATE, "away", x, z -> z.say(3, 0));
        due(INDEX, "away, no such WORD", () -> x.say(3, 6));
        due(1, "another one", () -> x.say(2, 0));
        x.keep(3, true);
        due(2, "near again", () -> x.say(3, 0));
        says("IllegalStateException: he is GONE, or there is no NAME");
        UnaskedName y = told("word 1;friend 0");
        refused(STATE, "no NAME", y, z -> z.crumb(0));
        due(INDEX, "no NAME, no such TRAIT", () -> y.crumb(6));
    }

    private static void nothingThere() {
        says("Nobody at court");
        UnaskedName x = new UnaskedName();
        int[] first = {0, 0, 0, 0, 0, 0, NONE, 0, 50, 0, 365, NONE, 0, 0, 50, 0, 365, 0, 0};
        for (int i = 0; i < first.length; i++) {
            int what = i;
            due(first[i], "count(" + i + ")", () -> x.count(what));
        }
        due(0, "nights without anyone", () -> x.nights(1) - 1);
        due(1, "no draw", () -> x.seed(1));
    }

    public static void main(String[] args) {
        nothingThere();
        names();
        court();
        words();
        settings();
        storyTexts();
        signs();
        faults();
        lawTexts();
        lawConditions();
        lawSums();
        said();
        nightsMore();
        seeds();
        ahead();
        acts();
        wouldAndFirst();
        sieges();
        plans();
        keeping();
        rowsAndSilence();
        traits();
        beliefs();
        duties();
        logQuestions();
        fitsAndDeeds();
        learntAndTrials();
        undone();
        images();
        tapes();
        refusals();
        System.out.println(checks + " edges of the document, " + wrong + " wrong");
        if (wrong != 0) System.exit(1);
    }
}
