/** The sentences of "TEXTS": at each place of a text, each character that is allowed and those that are not. */
public final class TextTests extends Checks {
    private static final String DIGITS = "0123456789";
    private static final String KINDS = "smul";
    // Twelve changes, of 59 characters.
    private static final String TWELVE = "m0=0;m0=1;m0=2;m0=3;m1=0;m1=1;m1=2;m1=3;u0=0;u1=0;u2=0;m2=3";

    private TextTests() {
    }

    public static void main(String[] args) {
        lengths();
        places();
        faults();
        changes();
        finish("sentences of the texts");
    }

    private static void lengths() {
        says("there is a text of at most 60 characters", TextTests::sixty);
        says("empty at first", TextTests::emptyAtFirst);
        says("any character", TextTests::anyCharacter);
        says("empties the text", TextTests::emptied);
    }

    private static void places() {
        says("a change begins with s, m, u or l", () -> allowedIn("", KINDS, false));
        says("with \";\" between two", TextTests::betweenTwo);
        says("cells are 0 to 23, behind s", () -> numbersTo23("s", "/", false));
        says("a cell behind \"/\"", () -> numbersTo23("s7/", ";", true));
        says("cells behind m", () -> numbersTo23("m", "=", false));
        says("cells behind u", () -> numbersTo23("u", "=", false));
        says("cards behind l", () -> numbersTo23("l", "=", false));
        says("a mark 0 to 3, behind m", () -> marksTo3("m23="));
        says("a mark 0 to 3, behind u", () -> marksTo3("u0="));
        says("perhaps \"-\", and a lean 0 to 9", TextTests::leansTo9);
        says("\"-0\" is not allowed", TextTests::minusZero);
        says("without a zero in front", TextTests::zeroInFront);
        says("unless they are the single digit 0", TextTests::singleZero);
        says("a digit by which one would be greater", TextTests::greater);
    }

    private static void faults() {
        says("the first character that is not allowed", TextTests::firstFault);
        says("the length of the text if it ends too early", TextTests::tooEarly);
        says("the empty text ends too early", TextTests::emptyText);
        says("whether a card is a court is no matter of the fault", TextTests::noMatterOfTheFault);
        says("no fault: NONE", TextTests::noFault);
    }

    private static void changes() {
        says("s: the cards of both cells are exchanged", TextTests::exchanges);
        says("m: the block gets it there, u: it loses it", TextTests::marks);
        says("l: a lean of a court", TextTests::leans);
        says("one after the other", TextTests::oneAfterTheOther);
        says("all of them or none", TextTests::allOrNone);
        says("the text stays", TextTests::textStays);
        says("this is one act", TextTests::oneAct);
        says("a change that is so already is no error", TextTests::soAlready);
        says("how many the text has", TextTests::howMany);
        says("-100 minus the fault", TextTests::faultOfAll);
        says("if a card that is to lean is no court", TextTests::noCourt);
    }

    // ---- lengths

    private static Shop with(String text) {
        Shop x = new Shop();
        x.write(text);
        return x;
    }

    private static void sixty() {
        Shop x = new Shop();
        for (int length = 1; length <= 60; length++) {
            due("type", x.type('s'), length);
            due("length", x.count(13), length);
        }
        stays(x, "the 61st", () -> x.type('s'), FULL);
        stays(x, "the 61st, another one", () -> x.type((char) 0), FULL);
        due("sixty", x.clearText(), 60);
        due("room again", x.type('m'), 1);
        Shop y = with(TWELVE);
        due("the 60th", y.type(';'), 60);
        stays(y, "a 61st that would make it longer", () -> y.type('s'), FULL);
        due("the fault stays", y.fault(), 60);
    }

    private static void emptyAtFirst() {
        Shop x = new Shop();
        due("length", x.count(13), 0);
        stays(x, "its fault", x::fault, 0);
        stays(x, "clearText", x::clearText, 0);
    }

    private static void anyCharacter() {
        for (char any : new char[] {0, 1, 9, 10, 13, ' ', 'z', 127, 128, 255, 256, 0xD800, 0xDFFF, 0xFFFF}) {
            Shop x = new Shop();
            due("type", x.type(any), 1);
            due("length", x.count(13), 1);
            due("it is not allowed", x.fault(), 0);
            due("the next one", x.type(any), 2);
            due("no act", x.count(12), 0);
        }
    }

    private static void emptied() {
        Shop x = with("s0/1");
        due("four", x.clearText(), 4);
        due("none", x.count(13), 0);
        due("none again", x.clearText(), 0);
        due("the fault of the empty one", x.fault(), 0);
        due("no act", x.count(12), 0);
        x.type('m');
        due("what was there is gone", x.fault(), 1);
    }

    // ---- places

    /** Each character behind a text: where it is not allowed it is the fault. */
    private static void allowedIn(String text, String allowed, boolean mayEnd) {
        due("the end behind \"" + text + "\"", with(text).fault(), mayEnd ? NONE : text.length());
        for (int sign = 0; sign <= 300; sign++) {
            char c = (char) sign;
            int got = with(text + c).fault();
            if (allowed.indexOf(c) < 0) {
                due("\"" + text + "\" and the character " + sign, got, text.length());
                due("the same with more behind", with(text + c + "s0/0").fault(), text.length());
            } else {
                due("\"" + text + "\" and the character " + sign + " is allowed",
                    got == NONE || got == text.length() + 1 ? 1 : 0, 1);
            }
        }
        // These are digits to others.
        for (char c : new char[] {0x0660, 0x0661, 0x06F1, 0xFF10, 0xFF11, 0xFF13, 0xFF39, 0xFFFF}) {
            due("\"" + text + "\" and another digit", with(text + c).fault(), text.length());
        }
    }

    private static void betweenTwo() {
        for (String change : new String[] {"s0/10", "s4/3", "m3=0", "m10=3", "u11=1", "l4=2", "l4=-9", "l0=9"}) {
            allowedIn(change, ";", true);
            allowedIn(change + ";", KINDS, false);
        }
    }

    private static void numbersTo23(String before, String behind, boolean mayEnd) {
        allowedIn(before, DIGITS, false);
        allowedIn(before + "0", behind, mayEnd);
        allowedIn(before + "1", DIGITS + behind, mayEnd);
        allowedIn(before + "2", "0123" + behind, mayEnd);
        for (int number = 3; number <= 23; number++) {
            allowedIn(before + number, behind, mayEnd);
        }
    }

    private static void marksTo3(String before) {
        allowedIn(before, "0123", false);
        for (int mark = 0; mark <= 3; mark++) {
            allowedIn(before + mark, ";", true);
        }
    }

    private static void leansTo9() {
        allowedIn("l3=", DIGITS + "-", false);
        for (int lean = 0; lean <= 9; lean++) {
            allowedIn("l3=" + lean, ";", true);
            if (lean > 0) {
                allowedIn("l3=-" + lean, ";", true);
            }
        }
        due("the dash of a cell", with("s-1/2").fault(), 1);
        due("the dash of a mark", with("m1=-1").fault(), 3);
        due("two dashes", with("l3=--1").fault(), 4);
        due("a plus", with("l3=+1").fault(), 3);
    }

    private static void minusZero() {
        allowedIn("l3=-", "123456789", false);
        due("-0", with("l3=-0").fault(), 4);
        due("-0 and more", with("l3=-0;s0/1").fault(), 4);
        due("-01", with("l3=-01").fault(), 4);
        due("0", with("l3=0").fault(), NONE);
        due("the error of it", with("l3=-0").changeAll(), -104);
    }

    private static void zeroInFront() {
        String[] texts = {"s00/1", "s01/1", "s1/00", "s1/01", "m00=1", "m05=1", "u07=2", "l03=1", "l3=00", "m1=01"};
        int[] faults = {2, 2, 4, 4, 2, 2, 2, 2, 4, 4};
        for (int k = 0; k < texts.length; k++) {
            due(texts[k], with(texts[k]).fault(), faults[k]);
        }
    }

    private static void singleZero() {
        for (String text : new String[] {"s0/0", "s0/1", "s1/0", "m0=0", "u0=0", "l0=0"}) {
            due(text, with(text).fault(), NONE);
        }
    }

    private static void greater() {
        String[] texts = {"s24/1", "s30/1", "s99/1", "s230/1", "s100/1", "s1/24", "s1/40", "s1/231", "m24=1",
            "u29=1", "l24=1", "l239=1", "m1=4", "m1=30", "u1=9", "l3=10", "l3=-10", "l3=99"};
        int[] faults = {2, 2, 2, 3, 3, 4, 4, 5, 2, 2, 2, 3, 3, 4, 3, 4, 5, 4};
        for (int k = 0; k < texts.length; k++) {
            due(texts[k], with(texts[k]).fault(), faults[k]);
        }
        due("23 is the greatest", with("s23/23;m23=3;u23=3;l23=-9").fault(), NONE);
    }

    // ---- faults

    private static void firstFault() {
        due("of two", with("s1/1,x").fault(), 4);
        due("in the second change", with("s1/1;x;y").fault(), 5);
        due("in the last of many", with(TWELVE.substring(0, 58) + "4").fault(), 58);
        due("at the last of 60", with(TWELVE + "x").fault(), 59);
        due("another fault behind it", with("m1=4;m1=5").fault(), 3);
    }

    private static void tooEarly() {
        String good = "s10/11;m12=3;u13=2;l14=-5";
        for (int length = 1; length < good.length(); length++) {
            String text = good.substring(0, length);
            boolean ends = text.matches(".*(s\\d+/\\d+|[mu]\\d+=\\d|l\\d+=-?\\d)");
            due(text, with(text).fault(), ends ? NONE : length);
            if (!ends) {
                due("changeAll of " + text, with(text).changeAll(), -100 - length);
            }
        }
        due("twelve and \";\"", with(TWELVE + ";").fault(), 60);
    }

    private static void emptyText() {
        Shop x = new Shop();
        stays(x, "fault", x::fault, 0);
        stays(x, "changeAll", x::changeAll, -100);
        x.write("s0/1");
        x.clearText();
        stays(x, "fault, emptied", x::fault, 0);
        stays(x, "changeAll, emptied", x::changeAll, -100);
    }

    private static void noMatterOfTheFault() {
        for (int card = 0; card < CELLS; card++) {
            for (String lean : new String[] {"=0", "=9", "=-1"}) {
                Shop x = with("l" + card + lean);
                due("fault of l" + card + lean, x.fault(), NONE);
                due("changeAll of l" + card + lean, x.changeAll(), card % 6 >= 3 ? 1 : NOT_POSSIBLE);
            }
        }
    }

    private static void noFault() {
        for (String text : new String[] {"s0/1", "s0/1;m2=3;u4=1;l5=-6", TWELVE, TWELVE.replace("m2=3", "m22=3")}) {
            Shop x = with(text);
            stays(x, text, x::fault, NONE);
        }
    }

    // ---- changes

    private static void exchanges() {
        Shop x = with("s0/23;s5/10");
        acts(x, "changeAll", x::changeAll, 2);
        due("cell 0", x.block(0, 0), 23);
        due("cell 23", x.block(23, 0), 0);
        due("cell 5", x.block(5, 0), 10);
        due("cell 10", x.block(10, 0), 5);
        for (int cell = 0; cell < CELLS; cell++) {
            Shop y = with("s" + cell + "/" + (23 - cell));
            y.changeAll();
            due("the first cell", y.block(cell, 0), 23 - cell);
            due("the second cell", y.block(23 - cell, 0), cell);
        }
    }

    private static void marks() {
        for (int mark = 0; mark <= 3; mark++) {
            for (int cell : new int[] {0, 9, 10, 23}) {
                Shop x = with("m" + cell + "=" + mark);
                due("m", x.changeAll(), 1);
                due("it has it", x.block(cell, 1), 1 << mark);
                due("no other", x.count(10), 1);
                for (int other = 0; other <= 3; other++) {
                    x.mark(cell, other, true);
                }
                x.write("u" + cell + "=" + mark);
                due("u", x.changeAll(), 1);
                due("it has lost it", x.block(cell, 1), 15 - (1 << mark));
            }
        }
    }

    private static void leans() {
        for (int lean = -9; lean <= 9; lean++) {
            for (int card : new int[] {3, 23}) {
                Shop x = new Shop();
                x.lean(card, 5);
                x.write("l" + card + "=" + lean);
                due("l", x.changeAll(), 1);
                due("it leans", x.cardOf(card, 1), lean + 100);
            }
        }
    }

    private static void oneAfterTheOther() {
        Shop x = with("s0/1;s1/2;m5=1;u5=1;u6=2;m6=2;l3=4;l3=-7");
        acts(x, "changeAll", x::changeAll, 8);
        due("cell 0", x.block(0, 0), 1);
        due("cell 1", x.block(1, 0), 2);
        due("cell 2", x.block(2, 0), 0);
        due("got and lost", x.block(5, 1), 0);
        due("lost and got", x.block(6, 1), 4);
        due("the last lean", x.cardOf(3, 1), 93);
    }

    private static void allOrNone() {
        for (String text : new String[] {"s0/1;m2=3;l4=5;l6=1", "l6=1;s0/1", "s0/1;l0=0;m2=2"}) {
            Shop x = with(text);
            stays(x, text, x::changeAll, NOT_POSSIBLE);
        }
        for (String text : new String[] {"s0/1;m2=3;l4=5;", "s0/1;m2=3;l4=55", "s0/1;s0/2;s"}) {
            Shop x = with(text);
            stays(x, text, x::changeAll, -100 - x.fault());
        }
    }

    private static void textStays() {
        Shop x = with("s0/1;m2=3");
        due("once", x.changeAll(), 2);
        due("length", x.count(13), 9);
        due("fault", x.fault(), NONE);
        due("twice", x.changeAll(), 2);
        due("exchanged twice", x.block(0, 0), 0);
        x.undo();
        due("undo leaves it", x.count(13), 9);
        due("and another time", x.changeAll(), 2);
        due("exchanged again", x.block(0, 0), 0);
    }

    private static void oneAct() {
        Shop x = with(TWELVE);
        acts(x, "twelve changes", x::changeAll, 12);
        due("one state", x.count(12), 1);
        x.undo();
        due("none of the changes", x.count(10), 0);
        for (int times = 1; times <= 5; times++) {
            acts(x, "changeAll", x::changeAll, 12);
            due("states", x.count(12), Math.min(times, 4));
        }
    }

    private static void soAlready() {
        for (String text : new String[] {"s5/5", "u7=2", "l4=0", "s0/0;u0=0;l3=0"}) {
            Shop x = with(text);
            acts(x, text, x::changeAll, text.split(";").length);
            same("the state", x.toldBack(0), new Shop().toldBack(0));
        }
        Shop y = with("m7=2");
        y.mark(7, 2, true);
        acts(y, "the mark is there", y::changeAll, 1);
        due("it stays", y.block(7, 1), 4);
        Shop z = with("l4=-3");
        z.lean(4, -3);
        acts(z, "it leans so", z::changeAll, 1);
        due("it stays so", z.cardOf(4, 1), 97);
    }

    private static void howMany() {
        StringBuilder text = new StringBuilder();
        for (int changes = 1; changes <= 12; changes++) {
            text.append(changes == 1 ? "" : ";").append("m").append(changes % 10).append("=").append(changes / 10);
            due(text.toString(), with(text.toString()).changeAll(), changes);
        }
        due("of 59 characters", text.length(), 59);
        due("long ones", with("s10/11;s12/13;s14/15;s16/17;s18/19;s20/21;s22/23;s10/23").changeAll(), 8);
    }

    private static void faultOfAll() {
        String[] texts = {"", "x", "s", "s24/1", "s1/1;", TWELVE + ";", TWELVE + "x"};
        int[] faults = {0, 0, 1, 2, 5, 60, 59};
        for (int k = 0; k < texts.length; k++) {
            Shop x = with(texts[k]);
            int due = -100 - faults[k];
            stays(x, "changeAll of " + texts[k], x::changeAll, due);
        }
    }

    private static void noCourt() {
        Shop first = with("l2=1;l3=1;l5=1");
        stays(first, "the first", first::changeAll, NOT_POSSIBLE);
        Shop last = with("l3=1;l5=1;l6=1");
        stays(last, "the last", last::changeAll, NOT_POSSIBLE);
        Shop so = with("l18=0");
        stays(so, "it is so already", so::changeAll, NOT_POSSIBLE);
        Shop both = with("l2=1;");
        stays(both, "a fault is told first", both::changeAll, -105);
        Shop courts = with("l3=1;l5=1;l9=1");
        acts(courts, "courts", courts::changeAll, 3);
        Shop others = with("m2=1;u0=1;s6/7");
        acts(others, "other changes of those numbers", others::changeAll, 3);
        first.write("m2=1");
        acts(first, "the no court is no longer there", first::changeAll, 1);
        last.write("m2=1;m3=1");
        acts(last, "nor behind this text's changes", last::changeAll, 2);
    }
}
