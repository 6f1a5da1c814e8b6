/** For each promise of ../shared/DOC.md: ordinary calls, the edges that it names, wrong arguments. */
public final class PromiseTests extends Checks {
    private PromiseTests() {
    }

    public static void main(String[] args) {
        Runnable[] promises = {
            PromiseTests::newObject, PromiseTests::swap, PromiseTests::mark, PromiseTests::lean,
            PromiseTests::changeAll, PromiseTests::set, PromiseTests::print, PromiseTests::cutSheet,
            PromiseTests::cutPack, PromiseTests::shuffle, PromiseTests::deal, PromiseTests::sell,
            PromiseTests::pulp, PromiseTests::type, PromiseTests::clearText, PromiseTests::fault,
            PromiseTests::undo, PromiseTests::keep, PromiseTests::restore, PromiseTests::block,
            PromiseTests::cardOf, PromiseTests::sheet, PromiseTests::pack, PromiseTests::count,
            PromiseTests::why, PromiseTests::chances, PromiseTests::ifPrinted,
            PromiseTests::worstFlaw, PromiseTests::bestWay, PromiseTests::backIn};
        for (int k = 0; k < promises.length; k++) {
            says("promise " + (k + 1), promises[k]);
        }
        finish("promises");
    }

    private static void newObject() {
        Shop x = new Shop();
        int[] counts = {0, 0, 0, 0, 0, 0, 0, 0, 0, 0, 0, 0, 0, 0, 10, 3, 4, 12};
        for (int what = 0; what < counts.length; what++) {
            due("count " + what, x.count(what), counts[what]);
        }
        for (int k = 0; k < 24; k++) {
            due("card of a cell", x.block(k, 0), k);
            due("marks of a cell", x.block(k, 1), 0);
            due("lean", x.cardOf(k, 1), 100);
        }
        due("undo", x.undo(), NONE);
        due("restore", x.restore(), NONE);
        Shop other = new Shop();
        x.mark(3, 1, true);
        x.type('s');
        due("another object", other.block(3, 1), 0);
        due("another object's text", other.count(13), 0);
    }

    private static void swap() {
        Shop x = new Shop();
        acts(x, "swap(0, 23)", () -> x.swap(0, 23), 23);
        due("cell 0", x.block(0, 0), 23);
        due("cell 23", x.block(23, 0), 0);
        acts(x, "swap(23, 7)", () -> x.swap(23, 7), 7);
        due("cell of 0", x.cardOf(0, 0), 7);
        due("cell of 7", x.cardOf(7, 0), 23);
        x.mark(2, 0, true);
        x.swap(2, 3);
        due("marks stay at the cell", x.block(2, 1), 1);
        stays(x, "swap(6, 6)", () -> x.swap(6, 6), NONE);
        for (int bad : new int[] {-1, 24, LOW, HIGH}) {
            stays(x, "swap bad cell", () -> x.swap(bad, 1), UNKNOWN);
            stays(x, "swap bad other", () -> x.swap(1, bad), UNKNOWN);
        }
        stays(x, "swap(24, 24)", () -> x.swap(24, 24), UNKNOWN);
    }

    private static void mark() {
        Shop x = new Shop();
        acts(x, "mark(23, 3, true)", () -> x.mark(23, 3, true), 8);
        acts(x, "mark(23, 0, true)", () -> x.mark(23, 0, true), 9);
        stays(x, "mark(23, 0, true)", () -> x.mark(23, 0, true), NONE);
        acts(x, "mark(23, 3, false)", () -> x.mark(23, 3, false), 1);
        stays(x, "mark(23, 3, false)", () -> x.mark(23, 3, false), NONE);
        stays(x, "mark(0, 0, false)", () -> x.mark(0, 0, false), NONE);
        acts(x, "mark(0, 2, true)", () -> x.mark(0, 2, true), 4);
        for (int bad : new int[] {-1, 24, LOW, HIGH}) {
            stays(x, "mark bad cell", () -> x.mark(bad, 0, true), UNKNOWN);
        }
        for (int bad : new int[] {-1, 4, 32, LOW, HIGH}) {
            stays(x, "mark bad mark", () -> x.mark(0, bad, true), UNKNOWN);
            stays(x, "mark bad mark", () -> x.mark(0, bad, false), UNKNOWN);
        }
    }

    private static void lean() {
        Shop x = new Shop();
        acts(x, "lean(3, 9)", () -> x.lean(3, 9), 100);
        acts(x, "lean(3, -9)", () -> x.lean(3, -9), 109);
        acts(x, "lean(3, 0)", () -> x.lean(3, 0), 91);
        stays(x, "lean(3, 0)", () -> x.lean(3, 0), NONE);
        acts(x, "lean(23, -1)", () -> x.lean(23, -1), 100);
        due("lean told", x.cardOf(23, 1), 99);
        acts(x, "lean(10, 1)", () -> x.lean(10, 1), 100);
        for (int card : new int[] {0, 1, 2, 6, 7, 8, 12, 18, 20}) {
            stays(x, "lean of no court", () -> x.lean(card, 1), NOT_POSSIBLE);
            stays(x, "lean 0 of no court", () -> x.lean(card, 0), NOT_POSSIBLE);
            stays(x, "bad lean of no court", () -> x.lean(card, 10), BAD_VALUE);
        }
        for (int bad : new int[] {-10, 10, LOW, HIGH}) {
            stays(x, "bad lean", () -> x.lean(3, bad), BAD_VALUE);
        }
        for (int bad : new int[] {-1, 24, LOW, HIGH}) {
            stays(x, "lean of bad card", () -> x.lean(bad, 1), UNKNOWN);
            stays(x, "bad lean of bad card", () -> x.lean(bad, 10), UNKNOWN);
        }
    }

    private static void changeAll() {
        Shop x = new Shop();
        x.write("s0/23;s23/5;m7=3;m7=1;u7=3;l9=-9;l10=9");
        acts(x, "changeAll", x::changeAll, 7);
        due("cell 0", x.block(0, 0), 23);
        due("cell 23", x.block(23, 0), 5);
        due("cell 5", x.block(5, 0), 0);
        due("marks of 7", x.block(7, 1), 2);
        due("lean of 9", x.cardOf(9, 1), 91);
        due("lean of 10", x.cardOf(10, 1), 109);
        due("the text stays", x.count(13), 38);
        x.write("l9=0;l9=0;m7=1;u0=0;s4/4");
        acts(x, "changes that are so already", x::changeAll, 5);
        acts(x, "all of them so already", x::changeAll, 5);
        x.write("m0=0;m0=1;m0=2;m0=3;m1=0;m1=1;m1=2;m1=3;u0=0;u1=0;u2=0;m2=3");
        due("length 59", x.count(13), 59);
        acts(x, "12 changes", x::changeAll, 12);
        due("marks of 0", x.block(0, 1), 14);
        due("marks of 2", x.block(2, 1), 8);
        x.write("m3=0;l2=0");
        stays(x, "no court", x::changeAll, NOT_POSSIBLE);
        x.write("l0=0");
        stays(x, "no court alone", x::changeAll, NOT_POSSIBLE);
        x.write("m3=0;l3=0;l0=0");
        stays(x, "no court as the last", x::changeAll, NOT_POSSIBLE);
        x.write("m3=0;l3=0");
        acts(x, "the no court is not in this text", x::changeAll, 2);
        x.write("l3=1;l8=-1;m3=0");
        stays(x, "no court in the middle", x::changeAll, NOT_POSSIBLE);
        x.write("m4=0;l2=1;");
        stays(x, "fault ahead of no court", x::changeAll, -110);
        x.write("m3=0;x");
        stays(x, "fault", x::changeAll, -105);
        x.clearText();
        stays(x, "empty text", x::changeAll, -100);
        x.write("m0=0;m0=1;m0=2;m0=3;m1=0;m1=1;m1=2;m1=3;u0=0;u1=0;u2=0;m2=3;");
        stays(x, "fault at the end of 60", x::changeAll, -160);
    }

    private static void set() {
        Shop x = new Shop();
        int[] first = {10, 3, 4, 12};
        int[] least = {1, 0, 0, 1};
        int[] most = {99, 9, 24, 99};
        for (int which = 0; which < 4; which++) {
            int k = which;
            stays(x, "set as it is", () -> x.set(k, first[k]), NONE);
            acts(x, "set to the least", () -> x.set(k, least[k]), first[k]);
            acts(x, "set to the most", () -> x.set(k, most[k]), least[k]);
            due("told", x.count(14 + k), most[k]);
            stays(x, "set too low", () -> x.set(k, least[k] - 1), BAD_VALUE);
            stays(x, "set too high", () -> x.set(k, most[k] + 1), BAD_VALUE);
            stays(x, "set far too low", () -> x.set(k, LOW), BAD_VALUE);
            stays(x, "set far too high", () -> x.set(k, HIGH), BAD_VALUE);
        }
        for (int bad : new int[] {-1, 4, LOW, HIGH}) {
            stays(x, "set bad", () -> x.set(bad, 1), BAD_VALUE);
            stays(x, "set bad to 0", () -> x.set(bad, 0), BAD_VALUE);
        }
    }

    private static void print() {
        Shop x = new Shop();
        x.mark(0, 2, true);
        x.mark(22, 0, true);
        acts(x, "print", () -> x.print(false), 1);
        acts(x, "print turned", () -> x.print(true), 2);
        due("not turned, cell 0", x.sheet(1, 0, 1), 4);
        due("not turned, cell 22", x.sheet(1, 22, 1), 1);
        due("turned, cell 23", x.sheet(0, 23, 1), 4);
        due("turned, cell 1", x.sheet(0, 1, 1), 1);
        due("turned, cell 0", x.sheet(0, 0, 1), 0);
        due("turned cards stay", x.sheet(0, 0, 0), 0);
        x.swap(0, 1);
        due("a sheet keeps its cards", x.sheet(0, 0, 0), 0);
        for (int sheets = 3; sheets <= 6; sheets++) {
            int k = sheets;
            acts(x, "print", () -> x.print(false), k);
        }
        stays(x, "print on 6", () -> x.print(false), FULL);
        stays(x, "print turned on 6", () -> x.print(true), FULL);
        due("printed", x.count(1), 6);
        wearOfTheBacks(7);
        wearOfTheBacks(1);
        wearOfTheBacks(2);
        wearIsCountedBySheets();
    }

    private static void wearOfTheBacks(int every) {
        Shop x = new Shop();
        x.set(0, every);
        for (int times = 1; times <= 56; times++) {
            x.print(times % 2 == 0);
            if (times == every) {
                due("the mark is not on this sheet", x.sheet(0, every, 1), 0);
                due("it is behind this sheet", x.block(every, 1), 2);
            }
            if (times == every + 1) {
                int cell = times % 2 == 0 ? 23 - every : every;
                due("it is on the next one", x.sheet(0, cell, 1), 2);
            }
            x.cutSheet(0);
            x.pulp();
        }
        int[] marks = new int[24];
        for (int times = every; times <= 56; times += every) {
            marks[times % 24] |= 1 << times / every % 4;
        }
        for (int cell = 0; cell < 24; cell++) {
            due("wear of the cell " + cell, x.block(cell, 1), marks[cell]);
        }
    }

    private static void wearIsCountedBySheets() {
        Shop x = new Shop();
        for (int times = 1; times <= 6; times++) {
            x.print(false);
        }
        due("no wear before 10", x.count(10), 0);
        x.cutSheet(0);
        x.pulp();
        x.set(0, 7);
        x.mark(7, 1, true);
        x.print(false);
        due("a mark that is there stays", x.block(7, 1), 2);
        x.undo();
        due("undone, the backs are printed 6 times", x.count(1), 6);
        x.mark(7, 1, false);
        x.print(false);
        due("the 7th printing again", x.block(7, 1), 2);
    }

    private static void cutSheet() {
        int[][] orders = {
            {0, 1, 2, 3, 4, 5, 6, 7, 8, 9, 10, 11, 12, 13, 14, 15, 16, 17, 18, 19, 20, 21, 22, 23},
            {0, 6, 12, 18, 1, 7, 13, 19, 2, 8, 14, 20, 3, 9, 15, 21, 4, 10, 16, 22, 5, 11, 17, 23},
            {0, 1, 2, 3, 4, 5, 11, 10, 9, 8, 7, 6, 12, 13, 14, 15, 16, 17, 23, 22, 21, 20, 19, 18},
            {0, 6, 12, 18, 19, 13, 7, 1, 2, 8, 14, 20, 21, 15, 9, 3, 4, 10, 16, 22, 23, 17, 11, 5}};
        for (int way = 0; way < 4; way++) {
            Shop x = new Shop();
            x.print(false);
            int k = way;
            acts(x, "cutSheet " + way, () -> x.cutSheet(k), 0);
            order(x, orders[way]);
        }
        Shop x = new Shop();
        stays(x, "empty pile", () -> x.cutSheet(0), NOT_POSSIBLE);
        stays(x, "empty pile, bad way", () -> x.cutSheet(4), BAD_VALUE);
        x.print(false);
        x.swap(0, 9);
        x.mark(0, 1, true);
        x.print(true);
        for (int bad : new int[] {-1, 4, LOW, HIGH}) {
            stays(x, "bad way", () -> x.cutSheet(bad), BAD_VALUE);
        }
        acts(x, "the top one", () -> x.cutSheet(0), 1);
        due("its card", x.pack(0, 0), 9);
        due("its marks", x.cardOf(23, 3), 2);
        stays(x, "a pack is there", () -> x.cutSheet(0), NOT_POSSIBLE);
        stays(x, "a pack is there, bad way", () -> x.cutSheet(-1), BAD_VALUE);
        x.deal(24);
        stays(x, "a pack that is dealt is there", () -> x.cutSheet(0), NOT_POSSIBLE);
        x.pulp();
        acts(x, "the one below", () -> x.cutSheet(0), 0);
        due("its card", x.pack(0, 0), 0);
        due("nothing is dealt of it", x.count(4), 0);
    }

    private static void cutPack() {
        Shop x = withPack(0);
        acts(x, "cutPack(1)", () -> x.cutPack(1), 1);
        acts(x, "cutPack(23)", () -> x.cutPack(23), 0);
        acts(x, "cutPack(20)", () -> x.cutPack(20), 20);
        order(x, 20, 21, 22, 23, 0, 1, 2, 3, 4, 5, 6, 7, 8, 9, 10, 11, 12, 13, 14, 15, 16, 17, 18, 19);
        x.deal(19);
        acts(x, "cutPack(2) of five", () -> x.cutPack(2), 17);
        order(x, 17, 18, 19, 15, 16);
        for (int bad : new int[] {0, -1, 5, 24, LOW, HIGH}) {
            stays(x, "bad cut", () -> x.cutPack(bad), BAD_VALUE);
        }
        acts(x, "cutPack(4) of five", () -> x.cutPack(4), 16);
        x.deal(4);
        stays(x, "one card", () -> x.cutPack(1), BAD_VALUE);
        x.deal(1);
        stays(x, "no card", () -> x.cutPack(0), BAD_VALUE);
        x.pulp();
        stays(x, "no pack", () -> x.cutPack(1), NOT_POSSIBLE);
        stays(x, "no pack, bad cut", () -> x.cutPack(0), NOT_POSSIBLE);
    }

    private static void shuffle() {
        Shop x = withPack(0);
        x.deal(16);
        acts(x, "shuffle(4) of eight", () -> x.shuffle(4), 6);
        order(x, 16, 20, 17, 21, 18, 22, 19, 23);
        acts(x, "shuffle(2) of eight", () -> x.shuffle(2), 2);
        order(x, 16, 17, 20, 21, 18, 22, 19, 23);
        acts(x, "shuffle(6) of eight", () -> x.shuffle(6), 7);
        order(x, 16, 19, 17, 23, 20, 21, 18, 22);
        acts(x, "shuffle(1) moves none", () -> x.shuffle(1), 0);
        acts(x, "shuffle(7) of eight", () -> x.shuffle(7), 7);
        order(x, 16, 22, 19, 17, 23, 20, 21, 18);
        for (int bad : new int[] {0, -1, 8, 24, LOW, HIGH}) {
            stays(x, "bad shuffle", () -> x.shuffle(bad), BAD_VALUE);
        }
        x.deal(7);
        stays(x, "one card", () -> x.shuffle(1), BAD_VALUE);
        x.pulp();
        stays(x, "no pack", () -> x.shuffle(1), NOT_POSSIBLE);
        stays(x, "no pack, bad", () -> x.shuffle(0), NOT_POSSIBLE);
    }

    private static void deal() {
        Shop x = withPack(0);
        acts(x, "deal(1)", () -> x.deal(1), 23);
        due("top card", x.pack(0, 0), 1);
        due("place of 0", x.cardOf(0, 2), NONE);
        due("place of 1", x.cardOf(1, 2), 0);
        due("beyond the last place", x.pack(23, 0), UNKNOWN);
        for (int bad : new int[] {0, -1, 24, LOW, HIGH}) {
            stays(x, "bad deal", () -> x.deal(bad), BAD_VALUE);
        }
        acts(x, "deal(20)", () -> x.deal(20), 3);
        due("dealt", x.count(4), 21);
        acts(x, "deal(3)", () -> x.deal(3), 0);
        due("the pack is still there", x.count(2), 1);
        stays(x, "deal of none", () -> x.deal(1), BAD_VALUE);
        x.pulp();
        stays(x, "no pack", () -> x.deal(1), NOT_POSSIBLE);
        stays(x, "no pack, bad", () -> x.deal(0), NOT_POSSIBLE);
    }

    private static void sell() {
        Shop x = withPack(0);
        acts(x, "sell", x::sell, 12);
        due("coins", x.count(9), 12);
        due("sold", x.count(7), 1);
        due("pulped", x.count(8), 0);
        due("pack", x.count(2), 0);
        stays(x, "no pack", x::sell, NOT_POSSIBLE);
        x.set(3, 99);
        x.print(false);
        x.cutSheet(1);
        acts(x, "sell again", x::sell, 99);
        due("coins", x.count(9), 111);
        due("sold", x.count(7), 2);
        x.lean(3, 4);
        x.print(false);
        x.cutSheet(1);
        stays(x, "court leans", x::sell, -12);
        x.deal(1);
        stays(x, "dealt from", x::sell, -11);
        x.pulp();
        x.lean(3, 3);
        x.set(2, 0);
        x.mark(0, 0, true);
        x.print(false);
        x.cutSheet(1);
        stays(x, "too many known", x::sell, -13);
        x.set(2, 1);
        acts(x, "just as many known", x::sell, 99);
    }

    private static void pulp() {
        Shop x = withPack(0);
        x.deal(5);
        acts(x, "pulp", x::pulp, 19);
        due("pulped", x.count(8), 1);
        due("sold", x.count(7), 0);
        due("coins", x.count(9), 0);
        due("pack", x.count(2), 0);
        due("cards", x.count(3), 0);
        due("dealt", x.count(4), 0);
        stays(x, "no pack", x::pulp, NOT_POSSIBLE);
        x.print(false);
        x.cutSheet(0);
        acts(x, "pulp whole", x::pulp, 24);
        due("pulped", x.count(8), 2);
    }

    private static void type() {
        Shop x = new Shop();
        char[] any = {'s', (char) 0, ' ', (char) 255, (char) 256, (char) 65535, 'x'};
        for (int k = 0; k < any.length; k++) {
            due("type", x.type(any[k]), k + 1);
        }
        due("no act", x.count(12), 0);
        for (int length = any.length + 1; length <= 60; length++) {
            due("type", x.type('s'), length);
        }
        stays(x, "type on 60", () -> x.type('s'), FULL);
        due("length", x.count(13), 60);
        x.write("s0/1");
        x.swap(3, 4);
        x.undo();
        due("undo leaves the text", x.count(13), 4);
        due("as it is", x.fault(), NONE);
    }

    private static void clearText() {
        Shop x = new Shop();
        due("empty", x.clearText(), 0);
        x.write("s0/1");
        due("four", x.clearText(), 4);
        due("cleared", x.count(13), 0);
        due("again", x.clearText(), 0);
        due("no act", x.count(12), 0);
        due("the empty text's fault", x.fault(), 0);
        for (int k = 0; k < 61; k++) {
            x.type('s');
        }
        due("sixty", x.clearText(), 60);
        due("there is room again", x.type('m'), 1);
    }

    private static void faultOf(String text, int want) {
        Shop x = new Shop();
        x.write(text);
        stays(x, "fault of \"" + text + "\"", x::fault, want);
        if (want != NONE) {
            stays(x, "changeAll of \"" + text + "\"", x::changeAll, -100 - want);
        }
    }

    private static void fault() {
        for (String good : new String[] {
            "s0/0", "s23/23", "s10/9", "s1/2", "s2/19", "m0=0", "m23=3", "u19=2", "l3=0", "l23=9",
            "l0=5", "l5=-9", "l5=-1", "s0/1;m2=3;u4=1;l5=-6", "s20/20;s0/23"}) {
            faultOf(good, NONE);
        }
        faultOf("", 0);
        faultOf("s", 1);
        faultOf("s1", 2);
        faultOf("s12", 3);
        faultOf("s12/", 4);
        faultOf("m1=", 3);
        faultOf("l4=-", 4);
        faultOf("s1/1;", 5);
        faultOf("s1/1;;", 5);
        faultOf(";", 0);
        faultOf("x", 0);
        faultOf("S1/1", 0);
        faultOf(" s1/1", 0);
        faultOf("0", 0);
        faultOf("s24", 2);
        faultOf("s29/1", 2);
        faultOf("s30", 2);
        faultOf("s00", 2);
        faultOf("s01", 2);
        faultOf("s231", 3);
        faultOf("s/1", 1);
        faultOf("s-1", 1);
        faultOf("s1=1", 2);
        faultOf("s1/24", 4);
        faultOf("s1/00", 4);
        faultOf("s1/101", 5);
        faultOf("s1/-1", 3);
        faultOf("s1/1/1", 4);
        faultOf("m1/1", 2);
        faultOf("m1=4", 3);
        faultOf("m1=9", 3);
        faultOf("m1=-1", 3);
        faultOf("m1=01", 4);
        faultOf("m1=11", 4);
        faultOf("m24=1", 2);
        faultOf("u1=4", 3);
        faultOf("u1=3 ", 4);
        faultOf("u=3", 1);
        faultOf("l4=10", 4);
        faultOf("l4=-0", 4);
        faultOf("l4=-10", 5);
        faultOf("l4=--1", 4);
        faultOf("l4=+1", 3);
        faultOf("l4=00", 4);
        faultOf("l24", 2);
        faultOf("s1/1,s1/1", 4);
        faultOf("s1/1;x;y", 5);
        faultOf("s1/" + (char) 0, 3);
        faultOf("s1/1" + (char) 0, 4);
        faultOf("s1" + (char) 305, 2);
        faultOf("s" + (char) 0x661, 1);
        faultOf((char) 371 + "1/1", 0);
        faultOf("s1/1;s1/1;s1/1;s1/1;s1/1;s1/1;s1/1;s1/1;s1/1;s1/1;s1/1;s1/10", NONE);
        faultOf("s1/1;s1/1;s1/1;s1/1;s1/1;s1/1;s1/1;s1/1;s1/1;s1/1;s1/1;s1/1;", 60);
        faultOf("s1/1;s1/1;s1/1;s1/1;s1/1;s1/1;s1/1;s1/1;s1/1;s1/1;s10/10;s1/", 60);
        faultOf("s1/1;s1/1;s1/1;s1/1;s1/1;s1/1;s1/1;s1/1;s1/1;s1/1;s10/10;s1s", 59);
    }

    private static void undo() {
        Shop x = new Shop();
        stays(x, "undo of nothing", x::undo, NONE);
        for (int cell = 0; cell < 6; cell++) {
            x.mark(cell, 0, true);
        }
        due("four states", x.count(12), 4);
        due("undo", x.undo(), 3);
        due("mark 5 is undone", x.block(5, 1), 0);
        due("mark 4 is not", x.block(4, 1), 1);
        x.swap(0, 1);
        due("four again", x.count(12), 4);
        for (int left = 3; left >= 0; left--) {
            due("undo", x.undo(), left);
        }
        stays(x, "no more", x::undo, NONE);
        due("marks then", x.count(10), 2);
        due("cards then", x.block(0, 0), 0);
        undoOfAllParts();
    }

    private static void undoOfAllParts() {
        Shop x = withPack(3);
        x.set(3, 50);
        x.print(true);
        String before = x.toldBack(0);
        x.sell();
        x.lean(5, 5);
        x.cutSheet(2);
        x.pulp();
        due("four undos", x.undo(), 3);
        x.undo();
        x.undo();
        due("the last one", x.undo(), 0);
        same("all", x.toldBack(0), before);
        due("printed", x.count(1), 2);
    }

    private static void keep() {
        Shop x = new Shop();
        due("keep", x.keep(), 0);
        due("no act", x.count(12), 0);
        x.print(false);
        x.print(false);
        due("keep", x.keep(), 2);
        due("no act", x.count(12), 2);
        x.print(false);
        due("the later one is kept", x.restore(), 2);
        x.undo();
        x.undo();
        due("undo leaves the snapshot", x.restore(), 2);
        due("sheets", x.count(0), 2);
    }

    private static void restore() {
        Shop x = new Shop();
        stays(x, "no snapshot", x::restore, NONE);
        x.mark(4, 1, true);
        x.print(true);
        x.cutSheet(1);
        x.shuffle(9);
        x.deal(3);
        x.write("s0/1");
        x.keep();
        String kept = x.toldBack(0);
        x.pulp();
        x.print(false);
        x.set(1, 1);
        x.lean(4, 4);
        x.swap(1, 2);
        acts(x, "restore", x::restore, 1);
        same("what was kept", x.toldBack(0), kept);
        x.deal(1);
        x.clearText();
        acts(x, "restore again", x::restore, 1);
        due("the text is not restored", x.count(13), 0);
        due("cards", x.count(3), 21);
        acts(x, "restore of the same", x::restore, 1);
        due("four states", x.count(12), 4);
    }

    private static void block() {
        Shop x = new Shop();
        x.swap(23, 1);
        x.mark(23, 2, true);
        x.mark(23, 3, true);
        due("card", x.block(23, 0), 1);
        due("marks", x.block(23, 1), 12);
        due("card", x.block(1, 0), 23);
        due("marks", x.block(1, 1), 0);
        for (int bad : new int[] {-1, 24, LOW, HIGH}) {
            stays(x, "bad cell", () -> x.block(bad, 0), UNKNOWN);
            stays(x, "bad cell and what", () -> x.block(bad, 2), UNKNOWN);
        }
        for (int bad : new int[] {-1, 2, LOW, HIGH}) {
            stays(x, "bad what", () -> x.block(0, bad), BAD_VALUE);
        }
    }

    private static void cardOf() {
        Shop x = new Shop();
        x.swap(0, 3);
        x.lean(3, -2);
        x.mark(0, 3, true);
        due("cell", x.cardOf(3, 0), 0);
        due("cell", x.cardOf(0, 0), 3);
        due("lean", x.cardOf(3, 1), 98);
        due("no court", x.cardOf(0, 1), 100);
        due("no pack", x.cardOf(3, 2), NONE);
        due("no pack", x.cardOf(3, 3), NONE);
        x.print(false);
        x.mark(0, 3, false);
        x.cutSheet(1);
        x.lean(3, 2);
        due("place", x.cardOf(3, 2), 0);
        due("place", x.cardOf(0, 2), 12);
        due("marks as printed", x.cardOf(3, 3), 8);
        due("marks", x.cardOf(0, 3), 0);
        due("lean now", x.cardOf(3, 1), 102);
        x.deal(2);
        due("dealt", x.cardOf(3, 2), NONE);
        due("marks of a dealt one", x.cardOf(3, 3), 8);
        due("place", x.cardOf(0, 2), 10);
        for (int bad : new int[] {-1, 24, LOW, HIGH}) {
            stays(x, "bad card", () -> x.cardOf(bad, 0), UNKNOWN);
            stays(x, "bad card and what", () -> x.cardOf(bad, 4), UNKNOWN);
        }
        for (int bad : new int[] {-1, 4, LOW, HIGH}) {
            stays(x, "bad what", () -> x.cardOf(0, bad), BAD_VALUE);
        }
    }

    private static void sheet() {
        Shop x = new Shop();
        stays(x, "empty pile", () -> x.sheet(0, 0, 0), UNKNOWN);
        x.swap(0, 23);
        x.mark(5, 1, true);
        x.print(false);
        x.swap(0, 1);
        x.print(true);
        due("top card", x.sheet(0, 0, 0), 1);
        due("top marks", x.sheet(0, 18, 1), 2);
        due("top marks", x.sheet(0, 5, 1), 0);
        due("card below", x.sheet(1, 0, 0), 23);
        due("card below", x.sheet(1, 23, 0), 0);
        due("marks below", x.sheet(1, 5, 1), 2);
        for (int bad : new int[] {-1, 2, 6, LOW, HIGH}) {
            stays(x, "bad sheet", () -> x.sheet(bad, 0, 0), UNKNOWN);
            stays(x, "bad sheet and what", () -> x.sheet(bad, 0, 2), UNKNOWN);
        }
        for (int bad : new int[] {-1, 24, LOW, HIGH}) {
            stays(x, "bad cell", () -> x.sheet(0, bad, 0), UNKNOWN);
            stays(x, "bad cell and what", () -> x.sheet(0, bad, 2), UNKNOWN);
        }
        for (int bad : new int[] {-1, 2, LOW, HIGH}) {
            stays(x, "bad what", () -> x.sheet(0, 0, bad), BAD_VALUE);
        }
        x.cutSheet(0);
        due("cut away", x.sheet(0, 0, 0), 23);
        stays(x, "no longer there", () -> x.sheet(1, 0, 0), UNKNOWN);
    }

    /** The marks: 4 and 9 have {0}, 7 has {1}, 8 has {0, 1}, the others have none. */
    private static Shop marked() {
        Shop x = new Shop();
        change(x, "m4=0;m9=0;m7=1;m8=0;m8=1");
        x.print(false);
        x.cutSheet(0);
        return x;
    }

    private static void place(Shop x, int place, int... answers) {
        for (int what = 0; what < answers.length; what++) {
            due("pack(" + place + ", " + what + ")", x.pack(place, what), answers[what]);
        }
    }

    private static void pack() {
        Shop x = new Shop();
        stays(x, "no pack", () -> x.pack(0, 0), UNKNOWN);
        stays(x, "no pack, bad what", () -> x.pack(0, 5), UNKNOWN);
        Shop y = marked();
        place(y, 0, 0, 0, 20, 0, 0);
        place(y, 4, 4, 1, 2, 4, 0);
        place(y, 7, 7, 2, 1, 7, 1);
        place(y, 8, 8, 3, 1, 8, 1);
        place(y, 9, 9, 1, 2, 4, 0);
        place(y, 23, 23, 0, 20, 0, 0);
        y.deal(5);
        place(y, 0, 5, 0, 16, 5, 0);
        place(y, 4, 9, 1, 1, 9, 1);
        place(y, 18, 23, 0, 16, 5, 0);
        for (int bad : new int[] {-1, 19, 24, LOW, HIGH}) {
            stays(y, "bad place", () -> y.pack(bad, 0), UNKNOWN);
            stays(y, "bad place and what", () -> y.pack(bad, 5), UNKNOWN);
        }
        for (int bad : new int[] {-1, 5, LOW, HIGH}) {
            stays(y, "bad what", () -> y.pack(0, bad), BAD_VALUE);
        }
        y.cutPack(4);
        place(y, 0, 9, 1, 1, 9, 1);
        place(y, 18, 8, 3, 1, 8, 1);
    }

    private static void count() {
        Shop x = marked();
        x.print(true);
        x.print(true);
        x.lean(3, 3);
        x.lean(4, -4);
        x.lean(23, 9);
        x.write("s1");
        x.deal(2);
        int[] counts = {2, 3, 1, 22, 2, 2, 4, 0, 0, 0, 5, 2, 4, 2, 10, 3, 4, 12};
        for (int what = 0; what < counts.length; what++) {
            due("count(" + what + ")", x.count(what), counts[what]);
        }
        x.set(1, 4);
        due("leaning beyond", x.count(11), 1);
        x.set(1, 0);
        due("leaning beyond", x.count(11), 3);
        x.deal(22);
        due("known of none", x.count(5), 0);
        due("guessed of none", x.count(6), 0);
        due("dealt", x.count(4), 24);
        x.pulp();
        x.cutSheet(0);
        x.set(1, 9);
        x.sell();
        int[] then = {1, 3, 0, 0, 0, 0, 0, 1, 1, 12, 5, 0, 4, 2, 10, 9, 4, 12};
        for (int what = 0; what < then.length; what++) {
            due("count(" + what + ")", x.count(what), then[what]);
        }
        for (int bad : new int[] {-1, 18, LOW, HIGH}) {
            stays(x, "bad what", () -> x.count(bad), BAD_VALUE);
        }
    }

    private static void why() {
        Shop x = new Shop();
        stays(x, "no pack", x::why, NOT_POSSIBLE);
        x.lean(5, -4);
        change(x, "m0=0;m1=1;m2=2;m3=3;m4=0;m4=1");
        x.print(false);
        x.lean(5, 0);
        x.cutSheet(2);
        stays(x, "it leans on its sheet", x::why, 2);
        x.set(1, 4);
        stays(x, "five known", x::why, 3);
        x.set(2, 5);
        stays(x, "it can be sold", x::why, 0);
        x.lean(5, 9);
        stays(x, "the block's lean is no matter", x::why, 0);
        x.set(1, 3);
        x.set(2, 4);
        stays(x, "the first of two", x::why, 2);
        x.deal(1);
        stays(x, "the first of three", x::why, 1);
        x.undo();
        x.set(1, 9);
        x.set(2, 24);
        x.deal(24);
        stays(x, "dealt", x::why, 1);
    }

    private static void chances() {
        Shop x = new Shop();
        due("no pack", x.chances(), -1.0f);
        Shop y = marked();
        float sum = 0.0f;
        for (int place = 0; place < 24; place++) {
            boolean known = place == 7 || place == 8;
            boolean pair = place == 4 || place == 9;
            sum += known ? 1.0f : pair ? 0.5f : 1.0f / 20;
        }
        due("a whole pack", y.chances(), sum);
        y.cutPack(8);
        float cut = 1.0f + 0.5f;
        for (int k = 10; k < 24; k++) {
            cut += 1.0f / 20;
        }
        for (int k = 0; k < 4; k++) {
            cut += 1.0f / 20;
        }
        cut += 0.5f;
        cut += 1.0f / 20;
        cut += 1.0f / 20;
        cut += 1.0f;
        due("from the top on", y.chances(), cut);
        y.deal(22);
        due("two places", y.chances(), 2.0f);
        y.deal(2);
        due("no cards", y.chances(), 0.0f);
        Shop z = withPack(0);
        z.deal(21);
        due("three alike", z.chances(), 1.0f / 3 + 1.0f / 3 + 1.0f / 3);
    }

    private static void ifPrinted() {
        Shop x = new Shop();
        due("no marks", x.ifPrinted(false), 0);
        due("no marks, turned", x.ifPrinted(true), 0);
        x.mark(3, 0, true);
        due("one", x.ifPrinted(false), 1);
        x.mark(20, 0, true);
        due("a pair is not known", x.ifPrinted(false), 0);
        due("a pair, turned", x.ifPrinted(true), 0);
        x.mark(20, 3, true);
        stays(x, "two", () -> x.ifPrinted(false), 2);
        stays(x, "two, turned", () -> x.ifPrinted(true), 2);
        for (int k = 0; k < 6; k++) {
            x.print(false);
        }
        stays(x, "with a pile of 6", () -> x.ifPrinted(true), 2);
        x.cutSheet(0);
        due("the same as of the pack", x.count(5), 2);
        x.deal(5);
        due("of a whole pack", x.ifPrinted(false), 2);
        Shop y = new Shop();
        change(y, "m0=1;m23=2");
        due("first and last cell", y.ifPrinted(false), 2);
        due("first and last cell, turned", y.ifPrinted(true), 2);
        Shop z = allMarkedBut(11);
        due("the only one without marks is known", z.ifPrinted(false), 1);
        due("the only one without marks, turned", z.ifPrinted(true), 1);
        z.mark(11, 3, true);
        due("it has other marks", z.ifPrinted(false), 1);
        z.mark(11, 3, false);
        z.mark(11, 0, true);
        due("all have the same", z.ifPrinted(false), 0);
    }

    private static Shop allMarkedBut(int bare) {
        Shop x = new Shop();
        for (int cell = 0; cell < 24; cell++) {
            if (cell != bare) {
                x.mark(cell, 0, true);
            }
        }
        return x;
    }

    private static void worstFlaw() {
        Shop x = new Shop();
        stays(x, "no marks, cell", () -> x.worstFlaw(0), 0);
        stays(x, "no marks, known", () -> x.worstFlaw(1), 0);
        change(x, "m5=0;m5=1;m9=2");
        due("the lower of two", x.worstFlaw(0), 5);
        due("one is known then", x.worstFlaw(1), 1);
        change(x, "m2=2;m1=3;m0=3");
        due("only 5 is known", x.ifPrinted(false), 1);
        due("without 5", x.worstFlaw(0), 5);
        due("none is known then", x.worstFlaw(1), 0);
        Shop y = new Shop();
        change(y, "m7=1;m8=1");
        due("without one of a pair the other is known", y.worstFlaw(0), 0);
        due("without no flaw none is known", y.worstFlaw(1), 0);
        Shop z = new Shop();
        change(z, "m23=0");
        due("the last cell", z.worstFlaw(0), 23);
        due("none is known then", z.worstFlaw(1), 0);
        for (int cell = 0; cell < 24; cell++) {
            Shop one = new Shop();
            one.mark(cell, cell % 4, true);
            due("the only flaw", one.worstFlaw(0), cell);
            due("none is known without it", one.worstFlaw(1), 0);
        }
        Shop alike = allMarkedBut(24);
        due("all have the same", alike.worstFlaw(0), 0);
        due("any one without marks is known", alike.worstFlaw(1), 1);
        Shop bare = allMarkedBut(11);
        due("without marks 0 is not told from 11", bare.worstFlaw(0), 0);
        due("none is known then", bare.worstFlaw(1), 0);
        for (int bad : new int[] {-1, 2, LOW, HIGH}) {
            stays(z, "bad what", () -> z.worstFlaw(bad), BAD_VALUE);
        }
    }

    private static void bestWay() {
        Shop x = new Shop();
        stays(x, "empty pile", x::bestWay, NOT_POSSIBLE);
        x.print(false);
        stays(x, "by columns two lie at home, by columns and back one", x::bestWay, 3);
        change(x, "s0/1");
        due("the sheet keeps its cards", x.bestWay(), 3);
        x.print(false);
        due("by columns and back none", x.bestWay(), 3);
        change(x, "s0/1;s0/23");
        x.print(false);
        due("by columns none", x.bestWay(), 1);
        x.cutSheet(0);
        stays(x, "with a pack on the table", x::bestWay, 3);
        Shop y = new Shop();
        change(y, "s0/1;s2/3;s4/5;s6/7;s8/9;s10/11;s12/13;s14/15;s16/17");
        change(y, "s18/19;s20/21;s22/23");
        y.print(true);
        due("by rows none", y.bestWay(), 0);
    }

    private static void backIn() {
        Shop x = new Shop();
        stays(x, "no pack", () -> x.backIn(1), NOT_POSSIBLE);
        stays(x, "no pack, bad", () -> x.backIn(0), NOT_POSSIBLE);
        Shop y = withPack(3);
        for (int top = 1; top < 24; top++) {
            int k = top;
            stays(y, "backIn(" + top + ")", () -> y.backIn(k), byShuffling(24, k));
        }
        due("nothing is moved", y.backIn(1), 1);
        due("a perfect shuffle", y.backIn(12), 11);
        for (int bad : new int[] {0, -1, 24, LOW, HIGH}) {
            stays(y, "bad", () -> y.backIn(bad), BAD_VALUE);
        }
        for (int left = 23; left >= 2; left--) {
            Shop z = withCards(left);
            for (int top = 1; top < left; top++) {
                due("backIn(" + top + ") of " + left, z.backIn(top), byShuffling(left, top));
            }
            due("bad", z.backIn(left), BAD_VALUE);
        }
        due("one card", withCards(1).backIn(1), BAD_VALUE);
        due("no card", withCards(0).backIn(1), BAD_VALUE);
    }
}
