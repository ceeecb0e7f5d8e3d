/** The bounds of promises 5 to 7, sentence by sentence: feed, text, force, and what a text is. */
public final class BoundsOfTextsTest {
    private static final Sentences DOC = new Sentences();
    private static final int LEAST = Sentences.LEAST, MOST = Sentences.MOST;
    private static final String GOOD = "takes 7;forwards 0;minds 3;";

    public static void main(String[] args) {
        feed();
        theTape();
        text();
        roomForTexts();
        force();
        words();
        numbers();
        signsAndBlanks();
        asLongAsCanBe();
        grammar();
        keysAndNames();
        values();
        faults();
        whatIsOpen();
        DOC.end();
    }

    private static void feed() {
        DOC.says(5, "A byte (0 .. 255) comes behind THE TAPE: how many it has. BAD; FULL.");
        OtherSidesPump x = new OtherSidesPump();
        int[] none = {LEAST, -256, -1, 256, 257, MOST};
        for (int letter : none) {
            DOC.is("feed(" + letter + ")", x.feed(letter), -2);
            DOC.is("count(2)", x.count(2), 0);
        }
        DOC.is("feed(0)", x.feed(0), 1);
        DOC.is("feed(255)", x.feed(255), 2);
        DOC.is("count(2)", x.count(2), 2);
        while (x.count(2) < 160) {
            x.feed(32);
        }
        for (int letter : none) {
            DOC.is("BAD ahead of FULL: feed(" + letter + ")", x.feed(letter), -2);
        }
        DOC.is("FULL alone", x.feed(255), -4);
        // a byte comes behind the others, not ahead of them
        OtherSidesPump y = new OtherSidesPump();
        DOC.is("a text in this order", Due.text(y, GOOD), 1);
    }

    private static void theTape() {
        DOC.says(5, "A TEXT is read from THE TAPE (160 bytes at most).");
        OtherSidesPump x = new OtherSidesPump();
        for (int i = 1; i <= 160; i++) {
            DOC.is("byte " + i, x.feed(32), i);
        }
        for (int i = 0; i < 3; i++) {
            DOC.is("byte 161", x.feed(32), -4);
            DOC.is("count(2)", x.count(2), 160);
        }
        // what was refused did not come: the text is one with 160 bytes, and not with more
        OtherSidesPump y = new OtherSidesPump();
        Due.feed(y, GOOD.substring(0, GOOD.length() - 1) + " ".repeat(160 - GOOD.length()) + ";");
        DOC.is("feed: a letter too many", y.feed('x'), -4);
        DOC.is("a text of 160 bytes", y.text(), 1);
        DOC.is("room again", y.feed(32), 1);
        // the longest there is: every byte counts
        OtherSidesPump z = new OtherSidesPump();
        String sum = "11" + "+1".repeat(66);
        String longest = "takes " + sum + ";forwards 1;minds 1;";
        DOC.is("as long as can be", longest.length(), 160);
        DOC.is("its text", Due.text(z, longest), 1);
        z.force(1);
        z.car(0, 0, 0);
        DOC.is("takes more than 40", z.told(0, 9), 40);
        fault("takes ^" + "1".repeat(154));
        fault("takes 1;forwards 1;minds ^" + "z".repeat(135));
        fault("takes " + "1+".repeat(76) + "11^");
        fault("takes " + "1+".repeat(76) + "1;^");
    }

    private static void text() {
        DOC.says(6, "THE TAPE, which is empty then, is a TEXT: its number; -100 less the place of its FAULT.");
        OtherSidesPump x = new OtherSidesPump();
        DOC.is("an empty tape", x.text(), -100);
        DOC.is("count(1) behind it", x.count(1), 1);
        DOC.is("a good one", Due.text(x, GOOD), 1);
        DOC.is("the tape behind it", x.count(2), 0);
        DOC.is("count(1)", x.count(1), 2);
        DOC.is("it is empty", x.text(), -100);
        DOC.is("a fault in place 0", Due.text(x, "?"), -100);
        DOC.is("the tape behind it", x.count(2), 0);
        DOC.is("a fault in place 1", Due.text(x, " ?"), -101);
        DOC.is("no text came of these", x.count(1), 2);
        DOC.is("the rule is the old one", x.count(3), 0);
        farFaults();
        nothingIsLeft();
    }

    private static void farFaults() {
        OtherSidesPump x = new OtherSidesPump();
        DOC.is("a fault in the last place", Due.text(x, " ".repeat(159) + "?"), -259);
        DOC.is("a fault behind the last place", Due.text(x, " ".repeat(160)), -260);
        DOC.is("the tape behind it", x.count(2), 0);
        DOC.is("no text came of these", x.count(1), 1);
    }

    /** What stood on the tape before, and a text with a fault, are nothing of what is read behind them. */
    private static void nothingIsLeft() {
        OtherSidesPump x = new OtherSidesPump();
        DOC.is("longer", Due.text(x, "takes 11111"), -106);
        DOC.is("and shorter", Due.text(x, "takes 1"), -107);
        DOC.is("longer", Due.text(x, "takes piepie"), -106);
        DOC.is("and shorter", Due.text(x, "takes pie"), -109);
        DOC.is("longer", Due.text(x, GOOD + ";"), -127);
        DOC.is("and shorter", Due.text(x, GOOD.substring(0, 26)), -126);
        DOC.is("a fault late", Due.text(x, "takes 9;forwards 1;minds 9;?"), -127);
        DOC.is("the next one", Due.text(x, GOOD), 1);
        DOC.is("a fault behind it", Due.text(x, "takes 9;forwards 1;minds 9;?"), -127);
        x.car(0, 0, 0);
        x.force(1);
        DOC.is("takes by it", x.told(0, 9), 7);
        DOC.is("forwards by it", x.told(0, 8), 0);
        DOC.is("minds by it", x.told(0, 10), 3);
    }

    private static void roomForTexts() {
        DOC.says(6, "There are 6 TEXTS at most, TEXT 0 with them.");
        OtherSidesPump x = new OtherSidesPump();
        DOC.is("count(1) at first", x.count(1), 1);
        for (int i = 1; i < 6; i++) {
            DOC.is("text", Due.text(x, "takes " + (i + 10) + ";forwards 1;minds " + i + ";"), i);
            DOC.is("count(1)", x.count(1), i + 1);
        }
        x.car(0, 0, 0);
        for (int i = 1; i < 6; i++) {
            x.force(i);
            DOC.is("takes by " + i, x.told(0, 9), i + 10);
            DOC.is("minds by " + i, x.told(0, 10), i);
        }
        x.force(0);
        DOC.is("takes by 0", x.told(0, 9), 4);
        longTexts();
        DOC.says(6, "FULL: no TEXT more has room (THE TAPE stays).");
        String[] tapes = {"", "?", GOOD, "takes"};
        int size = 0;
        for (String tape : tapes) {
            Due.feed(x, tape);
            size += tape.length();
            DOC.is("text with \"" + tape + "\"", x.text(), -4);
            DOC.is("the tape stays", x.count(2), size);
            DOC.is("texts stay", x.count(1), 6);
        }
        DOC.is("feed goes on behind it", x.feed(32), size + 1);
        x.force(5);
        DOC.is("the last one is as it was", x.told(0, 9), 15);
        // a fault takes no room
        OtherSidesPump y = new OtherSidesPump();
        for (int i = 0; i < 7; i++) {
            DOC.is("a fault", Due.text(y, "takes"), -105);
        }
        DOC.is("there is room behind faults", Due.text(y, GOOD), 1);
    }

    /** Texts as long as can be, behind a fault as late as can be: each is kept whole. */
    private static void longTexts() {
        OtherSidesPump x = new OtherSidesPump();
        String sum = "0" + "+0".repeat(65) + "+";
        DOC.is("a fault at its end", Due.text(x, "takes " + sum + "9;forwards 1;minds 9 ?"), -259);
        for (int i = 1; i < 3; i++) {
            DOC.is("a long text", Due.text(x, "takes " + sum + i + ";forwards " + i % 2 + ";minds " + i + ";"), i);
        }
        x.car(0, 0, 0);
        for (int i = 1; i < 3; i++) {
            x.force(i);
            DOC.is("takes by " + i, x.told(0, 9), i);
            DOC.is("forwards by " + i, x.told(0, 8), i % 2);
            DOC.is("minds by " + i, x.told(0, 10), i);
        }
    }

    private static void force() {
        DOC.says(7, "A TEXT is THE RULE: which was. BAD.");
        OtherSidesPump x = new OtherSidesPump();
        DOC.is("force(0) at first", x.force(0), 0);
        int[] none = {LEAST, -1, 1, 5, 6, MOST};
        for (int text : none) {
            DOC.is("force(" + text + ")", x.force(text), -2);
            DOC.is("count(3)", x.count(3), 0);
        }
        Due.text(x, GOOD);
        DOC.is("force(2), the first that is none", x.force(2), -2);
        DOC.is("force(1), the last that is one", x.force(1), 0);
        DOC.is("force(2)", x.force(2), -2);
        DOC.is("the rule stays", x.count(3), 1);
        DOC.is("force(1) again", x.force(1), 1);
        Station.fillTexts(x);
        DOC.is("force(6)", x.force(6), -2);
        DOC.is("force(5)", x.force(5), 1);
        DOC.is("force(0)", x.force(0), 5);
    }

    private static int textOf(String text) {
        return Due.text(new OtherSidesPump(), text);
    }

    private static String shown(String text) {
        StringBuilder s = new StringBuilder();
        for (char c : text.toCharArray()) {
            s.append(c >= 32 && c < 127 ? "" + c : "[" + (int) c + "]");
        }
        return s.toString();
    }

    private static void good(String text) {
        DOC.is(shown(text), textOf(text), 1);
    }

    private static void goodE(String e) {
        good("takes " + e + ";forwards 0;minds 1;");
    }

    /** The fault is in the place of the one caret. */
    private static void fault(String text) {
        int place = text.indexOf('^');
        DOC.is(shown(text), textOf(text.substring(0, place) + text.substring(place + 1)), -100 - place);
    }

    private static void words() {
        DOC.says(6, "WORDS (a .. z)");
        // a letter more makes another word; another byte is a fault of its own
        fault("takes 1+^capa;");
        fault("takes 1+^capz;");
        fault("takes 1+^acap;");
        fault("takes 1+^zcap;");
        fault("takes 1+cap^`;");
        fault("takes 1+cap^{;");
        fault("takes 1+cap^A;");
        fault("takes 1+cap^Z;");
        fault("takes 1+cap^_;");
        fault("takes 1+^CAP;");
        fault("takes 1+^Cap;");
        fault("takes 1+cap^" + (char) 225 + ";");
        // one as long as the whole tape
        fault("^" + "z".repeat(160));
        fault("^" + "takes".repeat(32));
    }

    private static void numbers() {
        DOC.says(6, "NUMBERS (digits, 4 at most)");
        goodE("0");
        goodE("9");
        goodE("0000");
        goodE("9999");
        fault("takes ^00000;");
        fault("takes ^10000;");
        fault("takes ^99999;");
        fault("takes ^" + "1".repeat(150));
        fault("takes 9^/;");
        fault("takes 9^:;");
        fault("takes 9999 ^9;");
        value("9999-9990", 9);
        value("0009", 9);
        value("10-0001", 9);
        value("0", 0);
    }

    private static void signsAndBlanks() {
        DOC.says(6, "SIGNS ( ) ; + - * < = ; blanks (32, 10) may stand between.");
        for (int b = 0; b < 256; b++) {
            boolean isSign = "();+-*<=".indexOf(b) >= 0;
            boolean isBlank = b == 32 || b == 10;
            boolean isPart = b >= 'a' && b <= 'z' || b >= '0' && b <= '9';
            String text = "takes 4 " + (char) b + " ;forwards 1;minds 1;";
            if (isBlank) {
                DOC.is("byte " + b, textOf(text), 1);
            } else if (!isSign && !isPart) {
                DOC.is("byte " + b, textOf(text), -108);
            }
        }
        goodE("(1)+2-3*4<5");
        goodE("1=2");
        good("takes4;forwards1;minds1;");
        good("takes(4);forwards(1);minds(1);");
        good("\n \n takes \n 4 \n ; \n forwards \n 1 \n ; \n minds \n 1 \n ; \n \n");
        // between, not within
        fault("^ta kes 4;");
        fault("takes 4;^for\nwards 1;");
        fault("takes 1 ^2;");
        fault("takes ^pi e;");
    }

    private static void asLongAsCanBe() {
        DOC.says(6, "TOKENS, each as long as can be:");
        fault("^takescap;");
        fault("^takesforwards 1;");
        fault("takes ^notcap;");
        fault("takes ^piepie;");
        fault("takes 1 ^orpie;");
        fault("takes ^12345;");
        goodE("not-1");
        goodE("1or 1and 1");
        // a word ends where a digit begins, and the other way round
        fault("takes pie^4;");
        fault("takes 4^pie;");
        good("takes4;forwards 1or 0;minds 1;");
    }

    private static void grammar() {
        DOC.says(6, "TEXT: takes E ; forwards E ; minds E ;");
        good("takes 1;forwards 1;minds 1;");
        fault("^");
        fault("^;");
        fault("^forwards 1;takes 1;minds 1;");
        fault("takes 1;^takes 1;");
        fault("takes 1;^minds 1;");
        fault("takes 1;forwards 1;^forwards 1;");
        fault("takes ^;forwards 1;minds 1;");
        fault("takes 1;forwards ^;minds 1;");
        fault("takes 1;forwards 1;minds ^;");
        fault("takes 1 ^forwards 1;minds 1;");
        fault("takes 1;^;forwards 1;minds 1;");
        fault("takes 1;forwards 1;minds 1;^;");
        fault("takes 1;forwards 1;minds 1;^takes 1;");
        fault("takes 1;forwards 1;minds 1;^1");
        DOC.says(6, "E: AND { or AND }. AND: NOT { and NOT }.");
        goodE("1 or 1");
        goodE("1 and 1");
        goodE("1" + " or 1".repeat(26));
        goodE("1" + " and 1".repeat(21));
        goodE("1 or 1 and 1 or 1");
        fault("takes 1 or ^;");
        fault("takes 1 and ^;");
        fault("takes ^or 1;");
        fault("takes ^and 1;");
        fault("takes 1 or ^or 1;");
        fault("takes 1 and ^or 1;");
        DOC.says(6, "NOT: not NOT, or SUM, perhaps < or = and a SUM.");
        goodE("not not 1");
        goodE("not 1<2");
        goodE("1<2");
        goodE("1+1=2*1");
        fault("takes not ^;");
        fault("takes ^<1;");
        fault("takes ^=1;");
        fault("takes 1<^;");
        fault("takes 1=^;");
        fault("takes 1<1^<1;");
        fault("takes 1<1^=1;");
        fault("takes 1=1^<1;");
        fault("takes 1<^=1;");
        fault("takes 1<^not 1;");
        fault("takes 1 ^not 1;");
        goodE("1<1 and 1<1");
        goodE("(1<1)<1");
        DOC.says(6, "SUM: TERM { + or - TERM }. TERM: ONE { * ONE }.");
        goodE("1+1-1+1");
        goodE("1*1*1");
        goodE("1" + "*1".repeat(66));
        fault("takes 1+^;");
        fault("takes 1-^;");
        fault("takes 1*^;");
        fault("takes ^+1;");
        fault("takes ^*1;");
        fault("takes 1+^+1;");
        fault("takes 1*^*1;");
        fault("takes 1+^not 1;");
        fault("takes 1*^not 1;");
        goodE("1--1");
        goodE("1*-1");
        DOC.says(6, "ONE: a NUMBER, a NAME, - ONE, ( E ).");
        goodE("7");
        goodE("pie");
        goodE("-7");
        goodE("--pie");
        goodE("(1 or 1)");
        goodE("-(not 1)");
        fault("takes (^);");
        fault("takes (1^;");
        fault("takes ^);");
        fault("takes 1^);");
        fault("takes 1^(1);");
        fault("takes -^;");
        fault("takes -^+1;");
        fault("takes -^not 1;");
    }

    private static void keysAndNames() {
        DOC.says(6, "NAMES are cap lane minute number ahead pie; takes, forwards, minds, or, and, not are KEYS.");
        String[] names = {"cap", "lane", "minute", "number", "ahead", "pie"};
        for (String name : names) {
            goodE(name);
            fault("^" + name + " 1;");
            fault("takes 1 ^" + name + ";");
            fault("takes ^" + name.substring(1) + ";");
            fault("takes ^" + name + "s;");
        }
        String[] keys = {"takes", "forwards", "minds", "or", "and"};
        for (String key : keys) {
            fault("takes ^" + key + ";");
            fault("takes 1+^" + key + ";");
        }
        String[] neither = {"a", "z", "pies", "caps", "take", "forward", "mind", "minutes", "waited"};
        for (String word : neither) {
            fault("takes ^" + word + ";");
            fault("takes 1 ^" + word + ";");
        }
    }

    /** What an E is worth, where that is 0 .. 9. */
    private static void value(String e, int want) {
        OtherSidesPump x = Station.ruled("1", "0", e);
        x.car(0, 0, 0);
        DOC.is(e, x.told(0, 10), want);
    }

    private static void values() {
        DOC.says(6, "An E is an int (32 bits, wrapping):");
        String most = Station.asE(MOST);
        String least = Station.asE(LEAST);
        value("0<" + most, 1);
        value(most + "+1<0", 1);
        value(most + "+1=" + least, 1);
        value(most + "+1", 0);
        value(least + "-1=" + most, 1);
        value(least + "-1", 9);
        value("-(" + least + ")=" + least, 1);
        value("(" + least + ")*-1=" + least, 1);
        value("(" + most + ")*2=-2", 1);
        value("9999*9999*9999=" + Station.asE(9999 * 9999 * 9999), 1);
        value("256*256*256*256+7", 7);
        value("256*256*128<0", 0);
        value("256*256*256*128<0", 1);
        value("-2147*1000*1000<2147*1000*1000", 1);
        DOC.says(6, "of or, and, not, <, = 1 or 0 (what is not 0 is true).");
        String[] truths = {"1", "2", "-1", "9999", "(" + least + ")", "256*256"};
        for (String truth : truths) {
            value(truth + " or 0", 1);
            value("0 or " + truth, 1);
            value(truth + " or " + truth, 1);
            value(truth + " and 1", 1);
            value("2 and " + truth, 1);
            value(truth + " and 0", 0);
            value("0 and " + truth, 0);
            value("not " + truth, 0);
            value("not not " + truth, 1);
        }
        value("0 or 0", 0);
        value("0 and 0", 0);
        value("not 0", 1);
        value("5<5", 0);
        value("5<6", 1);
        value("6<5", 0);
        value("-1<0", 1);
        value("5=5", 1);
        value("5=6", 0);
        value("-1=-1", 1);
        value("(2<3)*5+(3=3)", 6);
        // 0 itself, not what is held within 0
        String[] untrue = {"0 or 0", "0 and 1", "1 and 0", "0 and 0", "not 1", "2<1", "1<1", "1=2"};
        for (String e : untrue) {
            value("5+(" + e + ")", 5);
            value("5-(" + e + ")", 5);
        }
        String[] isTrue = {"0 or 3", "3 or 0", "3 and 4", "not 0", "1<2", "2=2"};
        for (String e : isTrue) {
            value("5+(" + e + ")", 6);
        }
    }

    private static void faults() {
        DOC.says(6, "FAULT: the place of the first byte of the first TOKEN that can't stand there");
        fault("takes 1;forwards 1;   ^takes 1;");
        fault("takes 1 ^minute + ?");
        fault("takes 1 ^1 99999 ?");
        fault("^minds takes;");
        DOC.says(6, "(the text's size, if it ends too early)");
        fault("^");
        fault("   ^");
        fault("takes^");
        fault("takes ^");
        fault("takes 1^");
        fault("takes 1 or^");
        fault("takes not^");
        fault("takes 1 +\n^");
        fault("takes (1^");
        fault("takes -^");
        fault("takes 1;^");
        fault("takes 1;forwards 1;minds 1^");
        fault("takes 1;forwards 1;minds 1 \n ^");
        fault(" ".repeat(160) + "^");
        fault("takes 1;forwards 1;minds 1" + " ".repeat(134) + "^");
        fault("takes " + "1+".repeat(77) + "^");
        DOC.says(6, "also of a byte that begins none,");
        fault("^?");
        fault("takes 1^,");
        fault("takes ^" + (char) 0);
        fault("takes ^" + (char) 255);
        fault("takes 1;forwards 1;minds 1;^\t");
        fault("takes 1;forwards 1;minds 1;\n^\r");
        DOC.says(6, "a WORD that is neither KEY nor NAME,");
        fault("takes ^waited;");
        fault("^pump 1;");
        fault("takes 1;forwards 1;minds 1;^the");
        // whatever stands ahead of it
        fault("takes -^x 1;");
        fault("takes not ^x 1;");
        fault("takes (^x 1));");
        fault("takes 1+^x;");
        fault("takes 1 or ^x;");
        fault("takes 1 ^x;");
        fault("^x takes 1;");
        DOC.says(6, "a NUMBER that is too long,");
        fault("takes 1+^12345;");
        fault("takes 1 ^12345;");
        fault("^12345;");
        goodE("1+1234");
    }

    private static void whatIsOpen() {
        DOC.says(6, "a ( , a not, a - ahead of a ONE while 5 of these are open");
        goodE("(((((1)))))");
        fault("takes (((((^(1))))));");
        goodE("not not not not not 1");
        fault("takes not not not not not ^not 1;");
        goodE("-----1");
        fault("takes -----^-1;");
        goodE("not(-(-1))");
        goodE("not(-((1)))");
        goodE("not not(-(1))");
        fault("takes not(-(-^-1));");
        fault("takes not(-(-^(1)));");
        fault("takes not(-((^not 1)));");
        fault("takes not not(-(^-1));");
        // a - behind a TERM is none of these
        goodE("(((((1-1-1)))))");
        goodE("not not not not not 1-1");
        fault("takes (((((1-^-1)))));");
        // the sixth is the fault, though more would be wrong behind it
        fault("takes -----^- ?");
        fault("takes (((((^(");
        DOC.says(6, "(a ( till its ) , not and - till what they belong to ends).");
        goodE("(((((1)))))*(((((1)))))+(((((1)))))");
        goodE("((((1)))+(((1))))");
        fault("takes ((((1)))+((((^(1))))));");
        goodE("-----1+-----1");
        goodE("-----1*-----1");
        goodE("-1*(((((1)))))");
        fault("takes -((((^(1)))));");
        goodE("not not not not not 1 and not not not not not 1");
        goodE("not not not not not 1 or (((((1)))))");
        goodE("not 1<((((1))))");
        fault("takes not 1<((((^(1)))));");
        fault("takes not 1=1+((((^(1)))));");
        fault("takes not not not not not 1<^-1;");
        fault("takes not not not not not 1*^-1;");
        goodE("(not not not not 1)+(not not not not 1)");
        fault("takes (not not not not ^not 1);");
        // each part of a text begins with nothing open
        good("takes -----1;forwards (((((1)))));minds not not not not not 1;");
    }
}
