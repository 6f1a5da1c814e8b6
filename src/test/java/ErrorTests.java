import java.util.ArrayList;
import java.util.List;
import java.util.function.ToDoubleFunction;

/** The ranges of the arguments, the order of the errors, and that a call that is refused changes nothing. */
public final class ErrorTests extends Checks {
    private ErrorTests() {
    }

    public static void main(String[] args) {
        cells();
        cards();
        others();
        orders();
        for (int state = 0; state < STATES_TO_TRY; state++) {
            int k = state;
            says("any call in the state " + state, () -> anyCall(k));
        }
        finish("sentences of the arguments and the errors");
    }

    private static void cells() {
        says("swap: cell 0 to 23", ErrorTests::firstOfSwap);
        says("swap: other 0 to 23", ErrorTests::secondOfSwap);
        says("mark: cell 0 to 23", ErrorTests::cellOfMark);
        says("mark: mark 0 to 3", ErrorTests::markOfMark);
        says("block: cell 0 to 23", ErrorTests::cellOfBlock);
        says("block: what 0 to 1", ErrorTests::whatOfBlock);
        says("sheet: 0 for the top one, and so on", ErrorTests::sheetOfSheet);
        says("sheet: cell 0 to 23", ErrorTests::cellOfSheet);
        says("sheet: what 0 to 1", ErrorTests::whatOfSheet);
    }

    private static void cards() {
        says("lean: a card", ErrorTests::cardOfLean);
        says("lean: -9 to 9", ErrorTests::leanOfLean);
        says("cardOf: a card", ErrorTests::cardOfCardOf);
        says("cardOf: what 0 to 3", ErrorTests::whatOfCardOf);
        says("cardOf: its place (NONE if there is no pack, or it was dealt)", ErrorTests::placeOfCard);
        says("cardOf: its marks (NONE without a pack)", ErrorTests::marksOfCard);
        says("cardOf: its lean now and 100 (100 if it is no court)", ErrorTests::leanOfCard);
    }

    private static void others() {
        says("set: which 0 to 3, value in its range", ErrorTests::set);
        says("cutSheet: way 0 to 3", ErrorTests::cutSheet);
        says("cutPack: 1 to the number of its cards less 1", ErrorTests::cutPack);
        says("shuffle: 1 to the number of its cards less 1", ErrorTests::shuffle);
        says("backIn: 1 to the number of its cards less 1", ErrorTests::backIn);
        says("deal: 1 to the number of its cards", ErrorTests::deal);
        says("pack: a place", ErrorTests::placeOfPack);
        says("pack: what 0 to 4", ErrorTests::whatOfPack);
        says("count: what 0 to 17", ErrorTests::whatOfCount);
        says("count: 3 to 6: 0 without a pack", ErrorTests::countsWithoutAPack);
        says("worstFlaw: what 0 to 1", ErrorTests::whatOfWorstFlaw);
        says("worstFlaw: of several the lowest", ErrorTests::lowestFlaw);
        says("bestWay: NOT_POSSIBLE if the pile is empty", ErrorTests::bestWayOfNone);
        says("bestWay: of several the lowest", ErrorTests::lowestWay);
        says("ifPrinted: if a sheet was printed now", ErrorTests::ifPrinted);
        says("backIn: for the first time, 1 to 500", ErrorTests::firstTimeBack);
    }

    private static void orders() {
        says("swap: UNKNOWN; NONE", ErrorTests::orderOfSwap);
        says("mark: UNKNOWN; NONE", ErrorTests::orderOfMark);
        says("lean: UNKNOWN; BAD_VALUE; NOT_POSSIBLE; NONE", ErrorTests::orderOfLean);
        says("set: BAD_VALUE; NONE", ErrorTests::orderOfSet);
        says("changeAll: the fault; NOT_POSSIBLE", ErrorTests::orderOfChangeAll);
        says("cutSheet: BAD_VALUE; NOT_POSSIBLE", ErrorTests::orderOfCutSheet);
        says("cutPack, shuffle, deal, backIn: NOT_POSSIBLE; BAD_VALUE", ErrorTests::orderWithoutAPack);
        says("sell: NOT_POSSIBLE; the reasons", ErrorTests::orderOfSell);
        says("block, cardOf, sheet, pack: UNKNOWN; BAD_VALUE", ErrorTests::orderOfTelling);
    }

    private static final int[] NO_CELLS = {-1, 24, -24, 25, 32, 100, LOW, LOW + 1, HIGH};

    // ---- cells

    private static void firstOfSwap() {
        for (int cell : new int[] {0, 23}) {
            Shop x = new Shop();
            acts(x, "swap", () -> x.swap(cell, 11), 11);
        }
        Shop x = new Shop();
        for (int no : NO_CELLS) {
            stays(x, "swap(" + no + ", 1)", () -> x.swap(no, 1), UNKNOWN);
        }
    }

    private static void secondOfSwap() {
        for (int cell : new int[] {0, 23}) {
            Shop x = new Shop();
            acts(x, "swap", () -> x.swap(11, cell), cell);
        }
        Shop x = new Shop();
        for (int no : NO_CELLS) {
            stays(x, "swap(1, " + no + ")", () -> x.swap(1, no), UNKNOWN);
        }
    }

    private static void cellOfMark() {
        Shop x = new Shop();
        for (int cell = 0; cell < CELLS; cell++) {
            due("mark", x.mark(cell, 3, true), 8);
        }
        for (int no : NO_CELLS) {
            stays(x, "mark(" + no + ")", () -> x.mark(no, 3, true), UNKNOWN);
            stays(x, "mark(" + no + ") taken", () -> x.mark(no, 3, false), UNKNOWN);
        }
    }

    private static void markOfMark() {
        Shop x = new Shop();
        acts(x, "the mark 0", () -> x.mark(5, 0, true), 1);
        acts(x, "the mark 3", () -> x.mark(5, 3, true), 9);
        for (int no : new int[] {-1, 4, 8, 31, 32, 33, 35, 64, LOW, HIGH}) {
            stays(x, "the mark " + no, () -> x.mark(5, no, true), UNKNOWN);
            stays(x, "the mark " + no + " taken", () -> x.mark(5, no, false), UNKNOWN);
        }
    }

    private static void cellOfBlock() {
        Shop x = new Shop();
        for (int cell = 0; cell < CELLS; cell++) {
            due("card", x.block(cell, 0), cell);
            due("marks", x.block(cell, 1), 0);
        }
        for (int no : NO_CELLS) {
            stays(x, "block(" + no + ", 0)", () -> x.block(no, 0), UNKNOWN);
            stays(x, "block(" + no + ", 1)", () -> x.block(no, 1), UNKNOWN);
        }
    }

    private static void whatOfBlock() {
        Shop x = new Shop();
        for (int no : new int[] {-1, 2, 3, LOW, HIGH}) {
            stays(x, "block(0, " + no + ")", () -> x.block(0, no), BAD_VALUE);
            stays(x, "block(23, " + no + ")", () -> x.block(23, no), BAD_VALUE);
        }
    }

    private static void sheetOfSheet() {
        Shop x = new Shop();
        for (int sheets = 0; sheets <= 6; sheets++) {
            if (sheets > 0) {
                x.print(false);
                due("the lowest one", x.sheet(sheets - 1, 0, 0), 0);
            }
            int no = sheets;
            stays(x, "below the lowest one", () -> x.sheet(no, 0, 0), UNKNOWN);
            stays(x, "above the top one", () -> x.sheet(-1, 0, 0), UNKNOWN);
        }
        for (int no : new int[] {6, 7, LOW, HIGH}) {
            stays(x, "the sheet " + no, () -> x.sheet(no, 0, 1), UNKNOWN);
        }
        x.cutSheet(0);
        stays(x, "a sheet that is cut", () -> x.sheet(5, 0, 0), UNKNOWN);
        due("the lowest one", x.sheet(4, 0, 0), 0);
    }

    private static void cellOfSheet() {
        Shop x = new Shop();
        x.print(false);
        for (int cell = 0; cell < CELLS; cell++) {
            due("card", x.sheet(0, cell, 0), cell);
            due("marks", x.sheet(0, cell, 1), 0);
        }
        for (int no : NO_CELLS) {
            stays(x, "the cell " + no, () -> x.sheet(0, no, 0), UNKNOWN);
            stays(x, "the cell " + no, () -> x.sheet(0, no, 1), UNKNOWN);
        }
    }

    private static void whatOfSheet() {
        Shop x = new Shop();
        x.print(false);
        for (int no : new int[] {-1, 2, LOW, HIGH}) {
            stays(x, "what " + no, () -> x.sheet(0, 0, no), BAD_VALUE);
        }
    }

    // ---- cards

    private static void cardOfLean() {
        Shop x = new Shop();
        due("the first court", x.lean(3, 1), 100);
        due("the last court", x.lean(23, 1), 100);
        for (int no : NO_CELLS) {
            stays(x, "the card " + no, () -> x.lean(no, 1), UNKNOWN);
        }
        for (int no : new int[] {27, 28, -3, -2}) {
            stays(x, "no card, though a court's rank", () -> x.lean(no, 1), UNKNOWN);
        }
    }

    private static void leanOfLean() {
        Shop x = new Shop();
        acts(x, "the least", () -> x.lean(23, -9), 100);
        acts(x, "the most", () -> x.lean(23, 9), 91);
        for (int no : new int[] {-10, 10, 100, -100, LOW, LOW + 1, HIGH}) {
            stays(x, "the lean " + no, () -> x.lean(23, no), BAD_VALUE);
        }
    }

    private static void cardOfCardOf() {
        Shop x = withPack(0);
        for (int card = 0; card < CELLS; card++) {
            due("cell", x.cardOf(card, 0), card);
            due("lean", x.cardOf(card, 1), 100);
            due("place", x.cardOf(card, 2), card);
            due("marks", x.cardOf(card, 3), 0);
        }
        for (int no : NO_CELLS) {
            for (int what = 0; what < 4; what++) {
                int k = what;
                stays(x, "the card " + no, () -> x.cardOf(no, k), UNKNOWN);
            }
        }
    }

    private static void whatOfCardOf() {
        Shop x = withPack(0);
        Shop none = new Shop();
        for (int no : new int[] {-1, 4, 5, LOW, HIGH}) {
            stays(x, "what " + no, () -> x.cardOf(0, no), BAD_VALUE);
            stays(none, "what " + no + " without a pack", () -> none.cardOf(0, no), BAD_VALUE);
        }
    }

    private static void placeOfCard() {
        Shop x = new Shop();
        stays(x, "no pack", () -> x.cardOf(0, 2), NONE);
        x.print(false);
        stays(x, "no pack, but a sheet", () -> x.cardOf(0, 2), NONE);
        x.cutSheet(0);
        stays(x, "the top one", () -> x.cardOf(0, 2), 0);
        stays(x, "the last one", () -> x.cardOf(23, 2), 23);
        x.deal(1);
        stays(x, "it was dealt", () -> x.cardOf(0, 2), NONE);
        stays(x, "the next one", () -> x.cardOf(1, 2), 0);
        x.deal(23);
        stays(x, "all were dealt", () -> x.cardOf(23, 2), NONE);
        x.pulp();
        stays(x, "pulped", () -> x.cardOf(23, 2), NONE);
    }

    private static void marksOfCard() {
        Shop x = new Shop();
        x.mark(0, 3, true);
        stays(x, "no pack", () -> x.cardOf(0, 3), NONE);
        x.print(false);
        stays(x, "no pack, but a sheet", () -> x.cardOf(0, 3), NONE);
        x.cutSheet(0);
        stays(x, "a pack", () -> x.cardOf(0, 3), 8);
        x.deal(1);
        stays(x, "it was dealt", () -> x.cardOf(0, 3), 8);
        x.deal(23);
        stays(x, "all were dealt", () -> x.cardOf(0, 3), 8);
        x.pulp();
        stays(x, "pulped", () -> x.cardOf(0, 3), NONE);
        x.undo();
        x.undo();
        x.undo();
        due("sold", x.sell(), 12);
        stays(x, "sold", () -> x.cardOf(0, 3), NONE);
    }

    private static void leanOfCard() {
        Shop x = new Shop();
        x.lean(3, -9);
        x.lean(5, 9);
        int[] leans = {100, 100, 100, 91, 100, 109};
        for (int card = 0; card < leans.length; card++) {
            due("lean of " + card, x.cardOf(card, 1), leans[card]);
        }
        x.print(false);
        x.lean(3, 0);
        x.cutSheet(0);
        due("now, not on the sheet", x.cardOf(3, 1), 100);
    }

    // ---- others

    private static void set() {
        Shop x = new Shop();
        int[][] ranges = {{1, 99}, {0, 9}, {0, 24}, {1, 99}};
        for (int which = 0; which < 4; which++) {
            int k = which;
            stays(x, "below", () -> x.set(k, ranges[k][0] - 1), BAD_VALUE);
            stays(x, "above", () -> x.set(k, ranges[k][1] + 1), BAD_VALUE);
            due("the least", x.set(k, ranges[k][0]) >= 0 ? 1 : 0, 1);
            due("the most", x.set(k, ranges[k][1]), ranges[k][0]);
        }
        for (int no : new int[] {-1, 4, LOW, HIGH}) {
            stays(x, "which " + no, () -> x.set(no, 5), BAD_VALUE);
        }
    }

    private static void cutSheet() {
        for (int way = 0; way <= 3; way++) {
            Shop x = new Shop();
            x.print(false);
            int k = way;
            acts(x, "the way " + way, () -> x.cutSheet(k), 0);
        }
        Shop x = new Shop();
        x.print(false);
        for (int no : new int[] {-1, 4, 5, LOW, HIGH}) {
            stays(x, "the way " + no, () -> x.cutSheet(no), BAD_VALUE);
        }
    }

    private static final int[] SIZES = {24, 23, 12, 3, 2};

    private static void cutPack() {
        for (int left : SIZES) {
            Shop x = withCards(left);
            for (int no : new int[] {0, -1, left, left + 1, LOW, HIGH}) {
                stays(x, "cutPack(" + no + ") of " + left, () -> x.cutPack(no), BAD_VALUE);
            }
            acts(x, "cutPack(1) of " + left, () -> x.cutPack(1), CELLS - left + 1);
            acts(x, "the most of " + left, () -> x.cutPack(left - 1), CELLS - left);
        }
        for (int left : new int[] {1, 0}) {
            Shop x = withCards(left);
            for (int no : new int[] {0, 1, -1, 23}) {
                stays(x, "cutPack(" + no + ") of " + left, () -> x.cutPack(no), BAD_VALUE);
            }
        }
    }

    private static void shuffle() {
        for (int left : SIZES) {
            Shop x = withCards(left);
            for (int no : new int[] {0, -1, left, left + 1, LOW, HIGH}) {
                stays(x, "shuffle(" + no + ") of " + left, () -> x.shuffle(no), BAD_VALUE);
            }
            acts(x, "shuffle(1) of " + left, () -> x.shuffle(1), 0);
            acts(x, "the most of " + left, () -> x.shuffle(left - 1), left == 2 ? 0 : left - 1);
        }
        for (int left : new int[] {1, 0}) {
            Shop x = withCards(left);
            for (int no : new int[] {0, 1, -1, 23}) {
                stays(x, "shuffle(" + no + ") of " + left, () -> x.shuffle(no), BAD_VALUE);
            }
        }
    }

    private static void backIn() {
        for (int left : SIZES) {
            Shop x = withCards(left);
            for (int no : new int[] {0, -1, left, left + 1, LOW, HIGH}) {
                stays(x, "backIn(" + no + ") of " + left, () -> x.backIn(no), BAD_VALUE);
            }
            stays(x, "backIn(1) of " + left, () -> x.backIn(1), 1);
            stays(x, "the most of " + left, () -> x.backIn(left - 1), left == 2 ? 1 : left - 1);
        }
        for (int left : new int[] {1, 0}) {
            Shop x = withCards(left);
            for (int no : new int[] {0, 1, -1, 23}) {
                stays(x, "backIn(" + no + ") of " + left, () -> x.backIn(no), BAD_VALUE);
            }
        }
    }

    private static void deal() {
        for (int left = 1; left <= CELLS; left++) {
            int k = left;
            Shop x = withCards(left);
            for (int no : new int[] {0, -1, left + 1, LOW, HIGH}) {
                stays(x, "deal(" + no + ") of " + left, () -> x.deal(no), BAD_VALUE);
            }
            Shop all = x.again();
            acts(all, "all of " + left, () -> all.deal(k), 0);
            due("dealt", all.count(4), CELLS);
            acts(x, "one of " + left, () -> x.deal(1), left - 1);
        }
        Shop none = withCards(0);
        for (int no : new int[] {0, 1, -1, 24, LOW, HIGH}) {
            stays(none, "deal(" + no + ") of none", () -> none.deal(no), BAD_VALUE);
        }
    }

    private static void placeOfPack() {
        for (int left : new int[] {24, 23, 2, 1, 0}) {
            Shop x = withCards(left);
            if (left > 0) {
                stays(x, "the top one", () -> x.pack(0, 0), CELLS - left);
                stays(x, "the last one", () -> x.pack(left - 1, 0), 23);
            }
            for (int no : new int[] {-1, left, left + 1, 24, LOW, HIGH}) {
                for (int what = 0; what < 5; what++) {
                    int k = what;
                    stays(x, "the place " + no, () -> x.pack(no, k), UNKNOWN);
                }
            }
        }
        Shop x = new Shop();
        x.print(false);
        stays(x, "no pack", () -> x.pack(0, 0), UNKNOWN);
    }

    private static void whatOfPack() {
        Shop x = withPack(0);
        for (int no : new int[] {-1, 5, LOW, HIGH}) {
            stays(x, "what " + no, () -> x.pack(0, no), BAD_VALUE);
            stays(x, "what " + no, () -> x.pack(23, no), BAD_VALUE);
        }
        int[] first = {0, 0, 24, 0, 0};
        for (int what = 0; what < first.length; what++) {
            due("what " + what, x.pack(0, what), first[what]);
        }
    }

    private static void whatOfCount() {
        Shop x = withPack(0);
        for (int what = 0; what <= 17; what++) {
            due("count(" + what + ")", x.count(what) >= 0 ? 1 : 0, 1);
        }
        for (int no : new int[] {-1, 18, 19, LOW, HIGH}) {
            stays(x, "count(" + no + ")", () -> x.count(no), BAD_VALUE);
        }
    }

    private static void countsWithoutAPack() {
        Shop x = new Shop();
        x.print(false);
        for (int round = 0; round < 3; round++) {
            for (int what = 2; what <= 6; what++) {
                due("without a pack, " + what, x.count(what), 0);
            }
            x.print(false);
            x.cutSheet(0);
            int[] with = {1, 24, 0, 0, 1};
            for (int what = 2; what <= 6; what++) {
                due("with a pack, " + what, x.count(what), with[what - 2]);
            }
            if (round == 0) {
                x.deal(7);
                x.pulp();
            } else {
                x.sell();
            }
        }
        Shop empty = withCards(0);
        int[] dealt = {1, 0, 24, 0, 0};
        for (int what = 2; what <= 6; what++) {
            due("dealt to the end, " + what, empty.count(what), dealt[what - 2]);
        }
    }

    private static void whatOfWorstFlaw() {
        Shop x = new Shop();
        stays(x, "the cell", () -> x.worstFlaw(0), 0);
        stays(x, "the number", () -> x.worstFlaw(1), 0);
        for (int no : new int[] {-1, 2, LOW, HIGH}) {
            stays(x, "what " + no, () -> x.worstFlaw(no), BAD_VALUE);
        }
    }

    /** The block without the marks of one cell is printed, cut and counted. */
    private static void checkWorstFlaw(Shop x) {
        int worst = 0;
        int fewest = CELLS + 1;
        for (int cell = 0; cell < CELLS; cell++) {
            Shop bare = x.again();
            for (int mark = 0; mark < 4; mark++) {
                bare.mark(cell, mark, false);
            }
            bare.print(false);
            bare.cutSheet(0);
            if (bare.count(5) < fewest) {
                fewest = bare.count(5);
                worst = cell;
            }
        }
        stays(x, "the cell", () -> x.worstFlaw(0), worst);
        int known = fewest;
        stays(x, "the number", () -> x.worstFlaw(1), known);
    }

    private static void lowestFlaw() {
        String[] texts = {"m5=0;m9=1", "m5=0;m9=0", "m5=0;m9=0;m23=1", "m0=0;m23=1", "m22=0;m23=1;m22=1",
            "m3=0;m7=0;m8=1;m9=1;m10=2;m11=2;m23=3", "m0=0;m1=0;m2=0;m3=1"};
        for (String text : texts) {
            Shop x = new Shop();
            change(x, text);
            checkWorstFlaw(x);
        }
        for (int bare : new int[] {-1, 0, 11, 23}) {
            Shop x = new Shop();
            for (int cell = 0; cell < CELLS; cell++) {
                if (cell != bare) {
                    x.mark(cell, cell % 3, true);
                }
            }
            checkWorstFlaw(x);
        }
    }

    private static void bestWayOfNone() {
        Shop x = new Shop();
        stays(x, "empty", x::bestWay, NOT_POSSIBLE);
        x.print(false);
        stays(x, "one sheet", x::bestWay, 3);
        x.cutSheet(0);
        stays(x, "empty again", x::bestWay, NOT_POSSIBLE);
        x.undo();
        stays(x, "one sheet again", x::bestWay, 3);
    }

    private static void checkBestWay(Shop x, int want) {
        int best = 0;
        int fewest = CELLS + 1;
        for (int way = 0; way < 4; way++) {
            Shop cut = x.again();
            cut.cutSheet(way);
            int home = 0;
            for (int place = 0; place < CELLS; place++) {
                home += cut.pack(place, 0) == place ? 1 : 0;
            }
            if (home < fewest) {
                fewest = home;
                best = way;
            }
        }
        due("by cutting", best, want);
        stays(x, "the way", x::bestWay, want);
    }

    private static void lowestWay() {
        Shop reversed = new Shop();
        for (int cell = 0; cell < 12; cell++) {
            reversed.swap(cell, 23 - cell);
        }
        reversed.print(false);
        checkBestWay(reversed, 0);
        Shop home = new Shop();
        home.print(true);
        checkBestWay(home, 3);
        Shop ends = new Shop();
        ends.swap(0, 23);
        ends.print(false);
        checkBestWay(ends, 1);
        for (int[] block : BLOCKS) {
            Shop laid = new Shop();
            lay(laid, block);
            laid.print(false);
            checkBestWay(laid, block[0]);
        }
        Shop top = new Shop();
        top.swap(0, 23);
        top.print(false);
        top.swap(0, 23);
        top.print(false);
        checkBestWay(top, 3);
        top.cutSheet(0);
        top.pulp();
        checkBestWay(top, 1);
    }

    // The best way, then the cards of the cells: each choice of ways is once the one of the fewest at home.
    private static final int[][] BLOCKS = {
        {0, 0, 21, 16, 12, 17, 9, 18, 6, 1, 15, 7, 19, 3, 2, 8, 4, 10, 23, 14, 5, 22, 13, 11, 20},
        {0, 21, 23, 12, 5, 4, 9, 17, 16, 3, 0, 7, 22, 20, 6, 2, 13, 10, 14, 18, 8, 15, 11, 19, 1},
        {0, 15, 1, 6, 13, 14, 0, 10, 20, 21, 22, 19, 8, 7, 5, 4, 11, 12, 18, 3, 23, 2, 17, 16, 9},
        {0, 10, 2, 12, 18, 4, 16, 5, 20, 22, 7, 9, 8, 11, 6, 23, 13, 21, 19, 15, 1, 14, 0, 3, 17},
        {0, 9, 14, 18, 19, 3, 5, 20, 16, 7, 2, 1, 21, 10, 0, 17, 23, 15, 4, 8, 22, 13, 12, 6, 11},
        {0, 10, 7, 19, 3, 16, 6, 15, 1, 14, 20, 21, 23, 22, 17, 18, 2, 8, 4, 5, 13, 11, 0, 9, 12},
        {0, 5, 4, 22, 21, 14, 8, 20, 19, 11, 0, 2, 10, 6, 13, 12, 3, 18, 1, 9, 15, 16, 17, 23, 7},
        {0, 15, 21, 20, 3, 18, 13, 23, 10, 1, 5, 0, 12, 2, 6, 19, 14, 11, 22, 4, 16, 9, 8, 7, 17},
        {1, 20, 7, 21, 23, 12, 5, 14, 6, 0, 19, 9, 4, 22, 13, 1, 17, 10, 18, 3, 2, 15, 8, 16, 11},
        {1, 10, 1, 3, 23, 22, 11, 8, 0, 5, 9, 15, 14, 2, 7, 16, 18, 12, 20, 13, 4, 6, 17, 21, 19},
        {1, 4, 18, 1, 14, 22, 21, 15, 3, 11, 13, 10, 2, 5, 12, 8, 17, 16, 6, 0, 9, 7, 19, 23, 20},
        {1, 22, 1, 20, 8, 14, 5, 13, 16, 7, 18, 21, 23, 6, 9, 15, 17, 4, 10, 3, 12, 0, 11, 2, 19},
        {2, 6, 19, 5, 20, 16, 17, 12, 3, 11, 1, 18, 7, 2, 4, 14, 21, 22, 10, 0, 13, 8, 15, 9, 23},
        {2, 15, 1, 21, 5, 18, 4, 20, 11, 8, 12, 0, 16, 2, 6, 9, 17, 7, 23, 19, 10, 3, 22, 13, 14},
        {3, 23, 18, 4, 11, 5, 8, 19, 7, 9, 22, 20, 21, 6, 2, 13, 1, 12, 17, 0, 16, 3, 10, 15, 14}};

    private static void lay(Shop x, int[] block) {
        for (int cell = 0; cell < CELLS; cell++) {
            int card = block[1 + cell];
            if (x.block(cell, 0) != card) {
                due("swap", x.swap(cell, x.cardOf(card, 0)), card);
            }
        }
    }

    private static void ifPrinted() {
        String[] texts = {"u0=0", "m5=0", "m5=0;m9=0", "m5=0;m9=0;m9=1", "m0=0;m23=1;m12=2;m13=2;m13=1"};
        for (String text : texts) {
            for (int wear = 1; wear <= 3; wear++) {
                Shop x = new Shop();
                change(x, text);
                x.set(0, wear);
                for (int sheets = 0; sheets < 6; sheets++) {
                    for (boolean turned : new boolean[] {false, true}) {
                        Shop printed = x.again();
                        printed.print(turned);
                        printed.cutSheet(sheets % 4);
                        int known = printed.count(5);
                        stays(x, "before the printing", () -> x.ifPrinted(turned), known);
                    }
                    x.print(sheets % 2 == 0);
                }
                int turned = x.ifPrinted(true);
                stays(x, "with a full pile", () -> x.ifPrinted(false), turned);
            }
        }
        Shop dealt = withCards(2);
        stays(dealt, "of a whole pack", () -> dealt.ifPrinted(false), 0);
        due("of the pack on the table", dealt.count(5), 0);
    }

    private static void firstTimeBack() {
        for (int left = 2; left <= CELLS; left++) {
            Shop x = withCards(left);
            for (int top = 1; top < left; top++) {
                due("backIn(" + top + ") of " + left, x.backIn(top), byShuffling(left, top));
            }
        }
        int most = 0;
        Shop x = withPack(0);
        for (int top = 1; top < CELLS; top++) {
            most = Math.max(most, x.backIn(top));
        }
        due("the most of 24 cards is within 500", most > 24 && most <= 500 ? 1 : 0, 1);
        for (int top : new int[] {1, 2, 5, 12, 13, 23}) {
            Shop y = withPack(3);
            y.cutPack(7);
            int times = y.backIn(top);
            String before = orderOf(y);
            for (int k = 1; k <= times; k++) {
                y.shuffle(top);
                due("back at last", orderOf(y).equals(before) ? 1 : 0, k == times ? 1 : 0);
            }
        }
    }

    private static String orderOf(Shop x) {
        Shop other = x.again();
        StringBuilder order = new StringBuilder();
        for (int place = 0; place < other.count(3); place++) {
            order.append(other.pack(place, 0)).append(' ');
        }
        return order.toString();
    }

    // ---- the order of the errors

    private static void orderOfSwap() {
        Shop x = new Shop();
        stays(x, "both the same, and no cell", () -> x.swap(24, 24), UNKNOWN);
        stays(x, "both the same, and no cell", () -> x.swap(-1, -1), UNKNOWN);
        stays(x, "both the same", () -> x.swap(23, 23), NONE);
        stays(x, "both the same", () -> x.swap(0, 0), NONE);
    }

    private static void orderOfMark() {
        Shop x = new Shop();
        stays(x, "so already, and no cell", () -> x.mark(24, 0, false), UNKNOWN);
        stays(x, "so already, and no mark", () -> x.mark(0, 4, false), UNKNOWN);
        stays(x, "so already, and no mark", () -> x.mark(0, -1, false), UNKNOWN);
        stays(x, "so already", () -> x.mark(0, 3, false), NONE);
        x.mark(0, 3, true);
        stays(x, "so already", () -> x.mark(0, 3, true), NONE);
        acts(x, "taken", () -> x.mark(0, 3, false), 0);
    }

    private static void orderOfLean() {
        Shop x = new Shop();
        stays(x, "no card, and no lean", () -> x.lean(24, 10), UNKNOWN);
        stays(x, "no card, and so already", () -> x.lean(-1, 0), UNKNOWN);
        stays(x, "no court, and no lean", () -> x.lean(0, 10), BAD_VALUE);
        stays(x, "no court, and no lean", () -> x.lean(20, -10), BAD_VALUE);
        stays(x, "a court, and no lean", () -> x.lean(3, 10), BAD_VALUE);
        stays(x, "no court, and so already", () -> x.lean(0, 0), NOT_POSSIBLE);
        stays(x, "no court", () -> x.lean(0, 9), NOT_POSSIBLE);
        stays(x, "so already", () -> x.lean(3, 0), NONE);
    }

    private static void orderOfSet() {
        Shop x = new Shop();
        stays(x, "which and value", () -> x.set(4, 100), BAD_VALUE);
        stays(x, "which", () -> x.set(-1, 10), BAD_VALUE);
        stays(x, "value", () -> x.set(1, 10), BAD_VALUE);
        stays(x, "so already", () -> x.set(1, 3), NONE);
    }

    private static void orderOfChangeAll() {
        Shop x = new Shop();
        x.write("l0=1;x");
        stays(x, "no court, and a fault", x::changeAll, -105);
        x.write("l0=1;");
        stays(x, "no court, and an early end", x::changeAll, -105);
        x.write("l0=1");
        stays(x, "no court", x::changeAll, NOT_POSSIBLE);
    }

    private static void orderOfCutSheet() {
        Shop x = new Shop();
        stays(x, "no way, and no sheet", () -> x.cutSheet(4), BAD_VALUE);
        stays(x, "no sheet", () -> x.cutSheet(3), NOT_POSSIBLE);
        x.print(false);
        x.print(false);
        stays(x, "no way", () -> x.cutSheet(-1), BAD_VALUE);
        x.cutSheet(0);
        stays(x, "no way, and a pack", () -> x.cutSheet(4), BAD_VALUE);
        stays(x, "a pack", () -> x.cutSheet(0), NOT_POSSIBLE);
        x.undo();
        x.undo();
        x.cutSheet(0);
        stays(x, "a pack, and no sheet", () -> x.cutSheet(0), NOT_POSSIBLE);
        stays(x, "no way, a pack, and no sheet", () -> x.cutSheet(HIGH), BAD_VALUE);
    }

    private static void orderWithoutAPack() {
        Shop x = new Shop();
        x.print(false);
        for (int top : new int[] {0, 1, 23, 24, 25, -1, LOW, HIGH}) {
            stays(x, "cutPack", () -> x.cutPack(top), NOT_POSSIBLE);
            stays(x, "shuffle", () -> x.shuffle(top), NOT_POSSIBLE);
            stays(x, "deal", () -> x.deal(top), NOT_POSSIBLE);
            stays(x, "backIn", () -> x.backIn(top), NOT_POSSIBLE);
        }
    }

    private static void orderOfSell() {
        Shop x = new Shop();
        stays(x, "no pack", x::sell, NOT_POSSIBLE);
        stays(x, "no pack", x::why, NOT_POSSIBLE);
        stays(x, "no pack", x::pulp, NOT_POSSIBLE);
        x.set(2, 0);
        x.mark(0, 0, true);
        x.lean(3, 4);
        x.print(false);
        stays(x, "a sheet is no pack", x::sell, NOT_POSSIBLE);
        x.cutSheet(0);
        stays(x, "leans, and known", x::sell, -12);
        x.set(1, 4);
        stays(x, "known", x::sell, -13);
        x.deal(1);
        stays(x, "dealt, and known", x::sell, -11);
        x.set(1, 3);
        stays(x, "dealt, leans, and known", x::sell, -11);
        x.pulp();
        stays(x, "no pack again", x::sell, NOT_POSSIBLE);
    }

    private static void orderOfTelling() {
        Shop x = new Shop();
        stays(x, "block", () -> x.block(24, 2), UNKNOWN);
        stays(x, "block", () -> x.block(-1, -1), UNKNOWN);
        stays(x, "cardOf", () -> x.cardOf(24, 4), UNKNOWN);
        stays(x, "cardOf", () -> x.cardOf(-1, 2), UNKNOWN);
        stays(x, "cardOf without a pack", () -> x.cardOf(24, 3), UNKNOWN);
        stays(x, "cardOf without a pack", () -> x.cardOf(0, -1), BAD_VALUE);
        stays(x, "sheet", () -> x.sheet(0, 0, 2), UNKNOWN);
        stays(x, "pack without a pack", () -> x.pack(0, 5), UNKNOWN);
        x.print(false);
        x.cutSheet(0);
        x.print(false);
        stays(x, "sheet", () -> x.sheet(1, 0, 2), UNKNOWN);
        stays(x, "sheet", () -> x.sheet(0, 24, 2), UNKNOWN);
        stays(x, "sheet", () -> x.sheet(0, 23, 2), BAD_VALUE);
        stays(x, "pack", () -> x.pack(24, 5), UNKNOWN);
        stays(x, "pack", () -> x.pack(-1, -1), UNKNOWN);
        stays(x, "pack", () -> x.pack(23, 5), BAD_VALUE);
    }

    // ---- any call in some states

    private static final int STATES_TO_TRY = 8;

    /** New; at work; full of all; with each kind of pack; with other texts and snapshots. */
    private static Shop state(int which) {
        Shop x = new Shop();
        if (which == 0) {
            return x;
        }
        x.write(new String[] {"s0/1", "l0=1", "", "m1=1;l9=-3", "m1=4", "s1/1;", "u2=3", "l2=0"}[which]);
        x.swap(0, 9);
        x.mark(3, 1, true);
        x.lean(9, which == 3 ? 4 : 2);
        if (which % 2 == 0) {
            x.keep();
        }
        for (int sheets = 0; sheets < (which == 2 ? 6 : 3); sheets++) {
            x.print(sheets % 2 == 1);
        }
        if (which == 2) {
            for (int k = x.count(13); k < 60; k++) {
                x.type('s');
            }
        }
        if (which >= 3) {
            x.cutSheet(which % 4);
        }
        if (which >= 5) {
            x.shuffle(7);
            x.deal(which == 5 ? 5 : which == 6 ? 23 : 24);
        }
        if (which == 4) {
            while (x.undo() > 0) {
                due("it has states", x.count(12) > 0 ? 1 : 0, 1);
            }
        }
        return x;
    }

    private static List<ToDoubleFunction<Shop>> acts() {
        List<ToDoubleFunction<Shop>> all = new ArrayList<>();
        for (int a : new int[] {LOW, -1, 0, 1, 2, 3, 4, 5, 9, 10, 18, 19, 22, 23, 24, 25, HIGH}) {
            all.add(x -> x.cutSheet(a));
            all.add(x -> x.cutPack(a));
            all.add(x -> x.shuffle(a));
            all.add(x -> x.deal(a));
            for (int b : new int[] {LOW, -10, -9, -1, 0, 1, 3, 4, 9, 10, 12, 23, 24, 25, 99, 100, HIGH}) {
                all.add(x -> x.swap(a, b));
                all.add(x -> x.mark(a, b, true));
                all.add(x -> x.mark(a, b, false));
                all.add(x -> x.lean(a, b));
                all.add(x -> x.set(a, b));
            }
        }
        all.add(x -> x.print(false));
        all.add(x -> x.print(true));
        all.add(x -> x.changeAll());
        all.add(x -> x.sell());
        all.add(x -> x.pulp());
        all.add(x -> x.restore());
        return all;
    }

    private static List<ToDoubleFunction<Shop>> tellers() {
        List<ToDoubleFunction<Shop>> all = new ArrayList<>();
        for (int a : new int[] {LOW, -1, 0, 1, 2, 3, 5, 6, 17, 18, 22, 23, 24, HIGH}) {
            all.add(x -> x.count(a));
            all.add(x -> x.worstFlaw(a));
            all.add(x -> x.backIn(a));
            for (int b : new int[] {-1, 0, 1, 2, 3, 4, 5, HIGH}) {
                all.add(x -> x.block(a, b));
                all.add(x -> x.cardOf(a, b));
                all.add(x -> x.pack(a, b));
                all.add(x -> x.sheet(b, a, 0));
                all.add(x -> x.sheet(a, b, 1));
                all.add(x -> x.sheet(0, a, b));
            }
        }
        all.add(x -> x.fault());
        all.add(x -> x.why());
        all.add(x -> x.chances());
        all.add(x -> x.ifPrinted(false));
        all.add(x -> x.ifPrinted(true));
        all.add(x -> x.bestWay());
        return all;
    }

    private static void anyCall(int which) {
        String before = state(which).told();
        for (ToDoubleFunction<Shop> teller : tellers()) {
            Shop x = state(which);
            teller.applyAsDouble(x);
            same("what is told after a call that tells", x.told(), before);
        }
        String[] back = new String[STATES];
        for (int undos = 0; undos < STATES; undos++) {
            back[undos] = state(which).toldBack(undos);
        }
        int done = 0;
        for (ToDoubleFunction<Shop> act : acts()) {
            Shop x = state(which);
            if (act.applyAsDouble(x) < 0) {
                same("what is told after a call that is refused", x.told(), before);
            } else {
                done++;
                due("states", x.again().count(12), Math.min(state(which).count(12) + 1, STATES));
                for (int undos = 0; undos < STATES; undos++) {
                    same("the state " + undos + " before", x.toldBack(undos + 1), back[undos]);
                }
            }
        }
        due("some are done", done > 0 ? 1 : 0, 1);
        others(which, before);
    }

    /** What is neither an act nor only tells. */
    private static void others(int which, String before) {
        Shop typed = state(which);
        Shop cleared = state(which);
        Shop kept = state(which);
        typed.type('m');
        cleared.clearText();
        kept.keep();
        for (Shop x : new Shop[] {typed, cleared, kept}) {
            due("no act", x.again().count(12), state(which).count(12));
            for (int undos = 0; undos <= STATES; undos++) {
                same("the state " + undos + " before", x.toldBack(undos), state(which).toldBack(undos));
            }
        }
        same("the snapshot", typed.toldOfSnapshot(), state(which).toldOfSnapshot());
        same("the snapshot", cleared.toldOfSnapshot(), state(which).toldOfSnapshot());
        same("the text", kept.toldOfText(), state(which).toldOfText());
        int states = state(which).count(12);
        Shop undone = state(which);
        int want = states == 0 ? NONE : states - 1;
        due("undo", undone.undo(), want);
        if (states == 0) {
            same("what is told after an undo of nothing", undone.told(), before);
        }
        due("the text's length", undone.count(13), state(which).count(13));
        same("the snapshot", undone.toldOfSnapshot(), state(which).toldOfSnapshot());
    }
}
