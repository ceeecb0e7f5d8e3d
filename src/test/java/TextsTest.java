/** Promises 5 to 7: feed, text, force; and what texts tell. */
public final class TextsTest {
    private static final Due DUE = new Due();

    public static void main(String[] args) {
        feed();
        textsAndTheirRoom();
        force();
        faults();
        depth();
        values();
        names();
        DUE.end();
    }

    private static void feed() {
        OtherSidesPump x = new OtherSidesPump();
        int[] wrong = {-1, 256, Integer.MIN_VALUE, Integer.MAX_VALUE};
        for (int letter : wrong) {
            DUE.is(5, "feed(" + letter + ")", x.feed(letter), -2);
        }
        for (int i = 1; i <= 160; i++) {
            DUE.is(5, "feed", x.feed(i % 2 == 0 ? 0 : 255), i);
        }
        DUE.is(5, "feed when full", x.feed(32), -4);
        DUE.is(5, "feed wrong when full", x.feed(256), -2);
        DUE.is(5, "count(2)", x.count(2), 160);
        DUE.is(6, "text of bytes that begin none", x.text(), -100);
        DUE.is(6, "count(2) afterwards", x.count(2), 0);
        DUE.is(5, "feed into room again", x.feed(32), 1);
    }

    private static void textsAndTheirRoom() {
        OtherSidesPump x = new OtherSidesPump();
        DUE.is(6, "text of nothing", x.text(), -100);
        for (int i = 1; i <= 5; i++) {
            DUE.is(6, "text", Due.text(x, "takes " + i + ";forwards 0;minds 2;"), i);
            DUE.is(6, "count(1)", x.count(1), i + 1);
            DUE.is(6, "count(2)", x.count(2), 0);
        }
        int size = Due.feed(x, "takes 1;forwards 0;minds 2;");
        DUE.is(6, "text when full", x.text(), -4);
        DUE.is(6, "the tape stays", x.count(2), size);
        DUE.is(6, "texts stay", x.count(1), 6);
        Due.feed(x, "?");
        DUE.is(6, "a fault when full", x.text(), -4);
        OtherSidesPump y = new OtherSidesPump();
        String blanks = " ".repeat(160 - 27);
        DUE.is(6, "as long as the tape", Due.text(y, "takes 1;forwards 0;minds 2;" + blanks), 1);
        DUE.is(6, "a fault leaves no text", Due.text(y, "takes 1;forwards 0;minds 2"), -126);
        DUE.is(6, "count(1)", y.count(1), 2);
    }

    private static void force() {
        OtherSidesPump x = new OtherSidesPump();
        DUE.is(7, "force(0)", x.force(0), 0);
        DUE.is(7, "force(1), none such", x.force(1), -2);
        DUE.is(7, "force(-1)", x.force(-1), -2);
        Due.text(x, "takes 9;forwards 0;minds 2;");
        x.car(0, 0, 0);
        DUE.is(7, "a text is no rule by itself", x.told(0, 9), 4);
        DUE.is(7, "force(1)", x.force(1), 0);
        DUE.is(7, "takes by it", x.told(0, 9), 9);
        DUE.is(7, "force(6)", x.force(6), -2);
        DUE.is(7, "count(3)", x.count(3), 1);
        DUE.is(7, "force(0)", x.force(0), 1);
        DUE.is(7, "takes by 0", x.told(0, 9), 4);
    }

    private static void fault(String text, int place) {
        DUE.is(6, "text \"" + text.replace("\n", "\\n") + "\"", Due.text(new OtherSidesPump(), text), -100 - place);
    }

    /** The fault is where the caret of this text stands. */
    private static void faultAtCaret(String text) {
        fault(text.replace("^", ""), text.indexOf('^'));
    }

    private static void good(String text) {
        DUE.is(6, "text \"" + text.replace("\n", "\\n") + "\"", Due.text(new OtherSidesPump(), text), 1);
    }

    private static void goodAsE(String e) {
        good("takes " + e + ";forwards 0;minds 1;");
    }

    private static void faults() {
        good("takes4;forwards1;minds1;");
        good("\n takes 4\n;\nforwards 1 ;minds 1 ; \n");
        good("takes 0004;forwards cap=1and lane<2or minute;minds(pie)*ahead-number;");
        faultAtCaret("takes 4;forwards 1;minds 1^");
        faultAtCaret("takes 4;forwards 1;minds 1  ^");
        faultAtCaret("takes 4;forwards 1;minds 1;^;");
        faultAtCaret("takes 4;forwards 1;minds 1; ^takes 4;");
        faultAtCaret("takes 4;forwards 1;minds 1; ^?");
        faultAtCaret("^forwards 1;takes 4;minds 1;");
        faultAtCaret("takes 4;^minds 1;forwards 1;");
        faultAtCaret("takes 4;forwards 1;^takes 1;");
        faultAtCaret("  ^4;");
        faultAtCaret("   ^");
        faultAtCaret("^Takes 4;");
        faultAtCaret("^take 4;");
        faultAtCaret("^takess 4;");
        faultAtCaret("takes ^;");
        faultAtCaret("takes ^12345;");
        faultAtCaret("takes ^00001;");
        faultAtCaret("takes 1234 ^5;");
        faultAtCaret("takes 4^pie;");
        faultAtCaret("takes pie ^4;");
        faultAtCaret("takes 4\t;".replace("\t", "^\t"));
        faultAtCaret("takes 1^>2;");
        faultAtCaret("takes 1 ^" + (char) 233);
        faultAtCaret("takes 1<2^<3;");
        faultAtCaret("takes 1=2 ^= 3;");
        faultAtCaret("takes 1+^+2;");
        faultAtCaret("takes 1*^*2;");
        faultAtCaret("takes ^+2;");
        faultAtCaret("takes 1+^not 2;");
        faultAtCaret("takes 1<^not 2;");
        faultAtCaret("takes -^not 2;");
        faultAtCaret("takes ^or 2;");
        faultAtCaret("takes 2 or ^or 2;");
        faultAtCaret("takes 2 or ^;");
        faultAtCaret("takes 2 and ^;");
        faultAtCaret("takes 2 < ^;");
        faultAtCaret("takes 2 - ^;");
        faultAtCaret("takes 2 * ^;");
        faultAtCaret("takes - ^;");
        faultAtCaret("takes 4;forwards 1;minds 1; ^5");
        faultAtCaret("takes 4;forwards 1;minds 1; ^pie");
        faultAtCaret("^takesz 4;");
        faultAtCaret("takes z^".replace("z^", "^z"));
        faultAtCaret("takes not ^;");
        faultAtCaret("takes (^);");
        faultAtCaret("takes (1^;");
        faultAtCaret("takes 1^);");
        faultAtCaret("takes (1))".replace("))", ")^)"));
        faultAtCaret("takes 1 ^( 2);");
        faultAtCaret("takes 1 + ^takes;");
        faultAtCaret("takes 1 + ^caps;");
        faultAtCaret("takes 1 ^not 2;");
        // the first fault, though a byte that begins no token is behind it
        faultAtCaret("takes 1 ^2 ?;");
        goodAsE("not not 1 < 2 and not 3 = 4 or 5");
        goodAsE("2 - - 1");
        goodAsE("2--1");
        goodAsE("(not 1) + 2");
    }

    private static void depth() {
        goodAsE("(((((1)))))");
        faultAtCaret("takes (((((^(1))))));");
        goodAsE("-----1");
        faultAtCaret("takes -----^-1;");
        goodAsE("not not not not not 1");
        faultAtCaret("takes not not not not not ^not 1;");
        goodAsE("not (not (- 1))");
        goodAsE("-(-(-1))");
        faultAtCaret("takes -(-(-^(1)));");
        faultAtCaret("takes not (not (- ^- 1));");
        goodAsE("(((((1))))) + (((((1)))))");
        goodAsE("-----1*-----1");
        goodAsE("not not not not not 1 and not not not not not 1");
        goodAsE("not not not not not 1 or (((((1)))))");
        // a not is open till its comparison ends
        faultAtCaret("takes not 1 < (((((1)))));".replace("(1", "^(1"));
        faultAtCaret("takes not not not not not 1 + ^-1;");
        goodAsE("not 1 < ((((1))))");
        // a - is open till its ONE ends
        goodAsE("-1 * (((((1)))))");
        faultAtCaret("takes -(((((1)))));".replace("(1", "^(1"));
    }

    /** What an E is: minds of it, as minds is told from 0 to 9. */
    private static void value(String e, int want) {
        OtherSidesPump x = Due.ruledBy("takes 1;forwards 0;minds " + e + ";");
        x.car(0, 0, 0);
        DUE.is(6, "minds " + e, x.told(0, 10), want);
    }

    private static void values() {
        value("1+2*3", 7);
        value("(1+2)*3", 9);
        value("9-3-2", 4);
        value("9-(3-2)", 8);
        value("2*3-4*1", 2);
        value("-3+5", 2);
        value("-2*-3", 6);
        value("- - 5", 5);
        value("5 or 0", 1);
        value("0 or 0", 0);
        value("5 and 4", 1);
        value("5 and 0", 0);
        value("2 and 1", 1);
        value("1 and 1", 1);
        value("1 and 0", 0);
        value("0 and 1", 0);
        value("0 or 1", 1);
        value("1 or 0 and 0", 1);
        value("(1 or 0) and 0", 0);
        value("not 5", 0);
        value("not 0", 1);
        value("not not 7", 1);
        value("not 1 = 2", 1);
        value("(not 1) = 0", 1);
        value("not 0 and 0", 0);
        value("1 < 2", 1);
        value("2 < 2", 0);
        value("2 = 1 + 1", 1);
        value("(1 < 2) + (2 < 3) * 4", 5);
        value("0 - 1 < 0", 1);
        // 32 bits, wrapping
        value("9999 * 9999 * 21 < 0", 0);
        value("9999 * 9999 * 22 < 0", 1);
        value("9999 * 9999 * 43 < 0", 0);
        value("9999 * 9999 * 9999 + 1027 * 1000 * 1000 = 0 - 349 * 1000 - 969", 1);
    }

    /** Each name by itself, of a car whose features differ from one another. */
    private static void names() {
        String[] names = {"cap", "lane", "minute", "number", "ahead", "pie"};
        int[] want = {1, 3, 8, 5, 0, 4};
        for (int i = 0; i < names.length; i++) {
            OtherSidesPump x = Due.ruledBy("takes 1;forwards 0;minds " + names[i] + ";");
            x.car(0, 5, 3);
            x.set(1, 0, 1);
            x.set(3, 0, 8);
            x.set(4, 0, 4);
            DUE.is(6, "minds " + names[i], x.told(0, 10), want[i]);
        }
    }
}
