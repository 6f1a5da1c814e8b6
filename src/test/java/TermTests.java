import java.util.Arrays;

/** The sentences of the document's "Terms", each with the last value on its side and the first beyond. */
public final class TermTests extends Checks {
    private TermTests() {
    }

    public static void main(String[] args) {
        blocks();
        wear();
        sheets();
        packs();
        sharper();
        settings();
        sales();
        finish("sentences of the terms");
    }

    private static void blocks() {
        says("the cell in the row r and the column c is 6 * r + c", TermTests::cellsOfRowsAndColumns);
        says("on the block each card lies in one cell, at first the card k in the cell k", TermTests::eachCardInOneCell);
        says("the ranks 3, 4 and 5 are courts", TermTests::courts);
        says("a court has a lean of its two ends, -9 to 9 (0 at first)", TermTests::leans);
        says("each cell has marks, a set of 4 (bits 0 to 3), none at first", TermTests::setsOfMarks);
    }

    private static void wear() {
        says("the backs have been printed once more with each sheet", TermTests::wearOfEachSheet);
        says("a multiple of the setting 0: from its least, 1 ..", () -> wearEvery(1, 54));
        says(".. by 2 ..", () -> wearEvery(2, 54));
        says(".. by 23, 24 and 25, about the number of the cells ..", TermTests::wearAboutTheCells);
        says(".. to its most, 99", TermTests::wearByTheMost);
        says("behind the printing of this sheet", TermTests::wearBehindThePrinting);
        says("(the times so far / the setting 0) modulo 4", TermTests::wearByAnotherSetting);
        says("if it does not have it", TermTests::wearThatIsThere);
        says("a printing that is undone was none", TermTests::wearUndone);
    }

    private static void sheets() {
        says("a sheet keeps the card of each cell", TermTests::sheetKeepsCards);
        says("a sheet keeps the leans of the courts", TermTests::sheetKeepsLeans);
        says("a sheet keeps the marks that are behind each cell", TermTests::sheetKeepsMarks);
        says("those of the same cell, or, turned, of the cell 23 less its number", TermTests::turnedSheets);
        says("the pile holds at most 6 sheets", TermTests::pileOfSix);
        says("the latest one on top", TermTests::latestOnTop);
    }

    private static void packs() {
        for (int way = 0; way < WAYS.length; way++) {
            int k = way;
            says("the way of cutting " + way, () -> wayOfCutting(k));
        }
        says("the sheet on top of the pile is cut", TermTests::topSheetIsCut);
        says("there is one pack at a time on the table", TermTests::onePackAtATime);
        says("places, 0 for the top one", TermTests::places);
        says("to cut the pack at n: the n top cards come behind the others", TermTests::cutAtEach);
        says("to shuffle it at n: in turns, beginning with the first", TermTests::shuffleAtEach);
        says("when one is used up, the other one follows as it is", TermTests::onePartUsedUp);
        says("dealt cards are gone from the top, but are known as dealt", TermTests::dealtCards);
    }

    private static void sharper() {
        says("the sharper knows the marks from the sheet", TermTests::marksFromTheSheet);
        says("just the marks that are seen there", TermTests::justTheMarks);
        says("those that are not dealt", TermTests::thoseNotDealt);
        says("the sharper knows the card if it is the only one", TermTests::onlyOne);
        says("it guesses the lowest of those that can be there", TermTests::lowestOfThose);
        says("the chance to be right is one in as many as can be there", TermTests::oneInAsMany);
        says("fifteen of 24 cards are known at most", TermTests::mostKnown);
    }

    private static void settings() {
        int[][] ranges = {{1, 99, 10}, {0, 9, 3}, {0, 24, 4}, {1, 99, 12}};
        for (int which = 0; which < ranges.length; which++) {
            int k = which;
            says("the range of the setting " + which, () -> range(k, ranges[k][0], ranges[k][1], ranges[k][2]));
        }
        says("there are the settings 0 to 3", TermTests::noOtherSettings);
        says("a setting may be any number of its range", TermTests::eachOfARange);
    }

    private static void sales() {
        says("1: cards were dealt from it", TermTests::dealtFrom);
        says("2: a court leans by more than the setting 1", TermTests::leansByMore);
        says("2: on its sheet", TermTests::leansOnItsSheet);
        says("2: each court counts, by each sign", TermTests::eachCourtLeans);
        says("3: a sharper would know more cards than the setting 2", TermTests::moreKnown);
        says("of several reasons the first is told", TermTests::firstReason);
        says("a pack that is sold brings the price", TermTests::soldForThePrice);
        says("one that is pulped nothing", TermTests::pulpedForNothing);
    }

    private static final int[][] WAYS = {
        {0, 1, 2, 3, 4, 5, 6, 7, 8, 9, 10, 11, 12, 13, 14, 15, 16, 17, 18, 19, 20, 21, 22, 23},
        {0, 6, 12, 18, 1, 7, 13, 19, 2, 8, 14, 20, 3, 9, 15, 21, 4, 10, 16, 22, 5, 11, 17, 23},
        {0, 1, 2, 3, 4, 5, 11, 10, 9, 8, 7, 6, 12, 13, 14, 15, 16, 17, 23, 22, 21, 20, 19, 18},
        {0, 6, 12, 18, 19, 13, 7, 1, 2, 8, 14, 20, 21, 15, 9, 3, 4, 10, 16, 22, 23, 17, 11, 5}};

    // ---- blocks

    private static void cellsOfRowsAndColumns() {
        Shop rows = withPack(0);
        Shop columns = withPack(1);
        for (int row = 0; row < 4; row++) {
            for (int column = 0; column < 6; column++) {
                int cell = 6 * row + column;
                due("row by row, from the left", rows.pack(6 * row + column, 0), cell);
                due("column by column, from above", columns.pack(4 * column + row, 0), cell);
            }
        }
    }

    private static void eachCardInOneCell() {
        Shop x = new Shop();
        for (int k = 0; k < CELLS; k++) {
            due("card of the cell " + k, x.block(k, 0), k);
            due("cell of the card " + k, x.cardOf(k, 0), k);
        }
        for (int k = 0; k < 40; k++) {
            x.swap(k * 5 % CELLS, (k * k + 1) % CELLS);
        }
        for (int k = 0; k < CELLS; k++) {
            due("the cell of the card of the cell " + k, x.cardOf(x.block(k, 0), 0), k);
        }
    }

    private static void courts() {
        for (int card = 0; card < CELLS; card++) {
            int k = card;
            Shop x = new Shop();
            if (card % 6 >= 3) {
                acts(x, "lean of the court " + card, () -> x.lean(k, 1), 100);
                due("lean told", x.cardOf(card, 1), 101);
                due("courts that lean", x.again().set(1, 0), 3);
            } else {
                stays(x, "lean of the card " + card, () -> x.lean(k, 1), NOT_POSSIBLE);
                due("lean told", x.cardOf(card, 1), 100);
            }
            due("changeAll", leanByText(card), card % 6 >= 3 ? 1 : NOT_POSSIBLE);
        }
    }

    private static int leanByText(int card) {
        Shop x = new Shop();
        x.write("l" + card + "=1");
        return x.changeAll();
    }

    private static void leans() {
        for (int card : new int[] {3, 4, 5, 9, 21, 22, 23}) {
            Shop x = new Shop();
            due("at first", x.cardOf(card, 1), 100);
            stays(x, "lean 0 at first", () -> x.lean(card, 0), NONE);
            acts(x, "the most", () -> x.lean(card, 9), 100);
            stays(x, "the most again", () -> x.lean(card, 9), NONE);
            stays(x, "more", () -> x.lean(card, 10), BAD_VALUE);
            acts(x, "the least", () -> x.lean(card, -9), 109);
            stays(x, "the least again", () -> x.lean(card, -9), NONE);
            stays(x, "less", () -> x.lean(card, -10), BAD_VALUE);
            acts(x, "0 again", () -> x.lean(card, 0), 91);
        }
        Shop x = new Shop();
        for (int lean = -9; lean <= 9; lean++) {
            x.lean(5, lean);
            due("each lean", x.cardOf(5, 1), lean + 100);
            due("the other courts", x.cardOf(4, 1), 100);
        }
    }

    private static void setsOfMarks() {
        Shop x = new Shop();
        for (int cell = 0; cell < CELLS; cell++) {
            due("none at first", x.block(cell, 1), 0);
        }
        for (int set = 0; set < 16; set++) {
            Shop y = new Shop();
            for (int mark = 0; mark < 4; mark++) {
                int bit = 1 << mark;
                due("mark", y.mark(17, mark, true), 2 * bit - 1);
            }
            for (int mark = 0; mark < 4; mark++) {
                if ((set >> mark & 1) == 0) {
                    y.mark(17, mark, false);
                }
            }
            due("each set", y.block(17, 1), set);
            due("its neighbours", y.block(16, 1) + y.block(18, 1), 0);
            due("as many marks", y.count(10), Integer.bitCount(set));
        }
    }

    // ---- wear

    /** Prints, and clears the pile before it is full. */
    private static void printTimes(Shop x, int times) {
        for (int k = 0; k < times; k++) {
            x.print(false);
            x.cutSheet(0);
            x.pulp();
        }
    }

    private static void wearOfEachSheet() {
        Shop x = new Shop();
        for (int times = 1; times <= 9; times++) {
            x.print(times % 2 == 0);
            due("printed", x.count(1), times);
            due("none before the 10th", x.count(10), 0);
            x.cutSheet(times % 4);
            x.sell();
        }
        x.print(false);
        due("one by the 10th", x.count(10), 1);
        due("at the cell 10, the mark 1", x.block(10, 1), 2);
        x.print(false);
        due("none by the 11th", x.count(10), 1);
    }

    private static void wearEvery(int every, int times) {
        Shop x = new Shop();
        x.set(0, every);
        int[] marks = new int[CELLS];
        for (int k = 1; k <= times; k++) {
            printTimes(x, 1);
            if (k % every == 0) {
                marks[k % CELLS] |= 1 << k / every % 4;
            }
            due("after the printing " + k, x.block(k % CELLS, 1), marks[k % CELLS]);
        }
        for (int cell = 0; cell < CELLS; cell++) {
            due("at last, the cell " + cell, x.block(cell, 1), marks[cell]);
        }
    }

    private static void wearAboutTheCells() {
        int[][] cells = {{23, 22, 21, 20}, {0, 0, 0, 0}, {1, 2, 3, 4}};
        for (int every = 23; every <= 25; every++) {
            Shop x = new Shop();
            x.set(0, every);
            int before = 0;
            for (int multiple = 1; multiple <= 4; multiple++) {
                printTimes(x, every - 1);
                due("not before", x.count(10), multiple - 1);
                printTimes(x, 1);
                int cell = cells[every - 23][multiple - 1];
                before = every == 24 ? before : 0;
                before |= 1 << multiple % 4;
                due("the cell " + cell, x.block(cell, 1), before);
                due("one more", x.count(10), multiple);
            }
        }
    }

    private static void wearByTheMost() {
        Shop x = new Shop();
        x.set(0, 99);
        printTimes(x, 98);
        due("not by the 98th", x.count(10), 0);
        printTimes(x, 1);
        due("by the 99th", x.count(10), 1);
        due("at the cell 3, the mark 1", x.block(3, 1), 2);
        printTimes(x, 1);
        due("not by the 100th", x.count(10), 1);
    }

    private static void wearBehindThePrinting() {
        for (boolean turned : new boolean[] {false, true}) {
            Shop x = new Shop();
            x.set(0, 1);
            x.print(turned);
            for (int cell = 0; cell < CELLS; cell++) {
                due("none on this sheet", x.sheet(0, cell, 1), 0);
            }
            due("on the block", x.block(1, 1), 2);
            x.print(turned);
            due("on the next sheet", x.sheet(0, turned ? 22 : 1, 1), 2);
            due("not that of the next one", x.sheet(0, turned ? 21 : 2, 1), 0);
            due("still none on the first", x.sheet(1, turned ? 22 : 1, 1), 0);
        }
    }

    private static void wearByAnotherSetting() {
        Shop x = new Shop();
        printTimes(x, 4);
        x.set(0, 5);
        printTimes(x, 1);
        due("5 by 5", x.block(5, 1), 2);
        x.set(0, 2);
        printTimes(x, 1);
        due("6 by 2", x.block(6, 1), 8);
        x.set(0, 7);
        printTimes(x, 1);
        due("7 by 7", x.block(7, 1), 2);
        x.set(0, 2);
        printTimes(x, 1);
        due("8 by 2", x.block(8, 1), 1);
        x.set(0, 8);
        printTimes(x, 2);
        due("neither 9 nor 10 by 8", x.count(10), 4);
    }

    private static void wearThatIsThere() {
        Shop x = new Shop();
        x.set(0, 3);
        x.mark(3, 1, true);
        x.mark(3, 2, true);
        printTimes(x, 3);
        due("it stays", x.block(3, 1), 6);
        due("no other comes", x.count(10), 2);
        Shop y = new Shop();
        y.set(0, 3);
        y.mark(3, 2, true);
        printTimes(y, 3);
        due("it comes to the others", y.block(3, 1), 6);
    }

    private static void wearUndone() {
        Shop x = new Shop();
        x.set(0, 2);
        x.print(false);
        x.print(false);
        due("worn", x.block(2, 1), 2);
        x.undo();
        due("not worn", x.block(2, 1), 0);
        due("printed once", x.count(1), 1);
        x.print(true);
        due("worn again", x.block(2, 1), 2);
    }

    // ---- sheets

    private static void sheetKeepsCards() {
        Shop x = new Shop();
        x.swap(0, 23);
        x.print(false);
        for (int cell = 0; cell < 12; cell++) {
            x.swap(cell, cell + 12);
        }
        for (int cell = 0; cell < CELLS; cell++) {
            due("card of the cell " + cell, x.sheet(0, cell, 0), cell == 0 ? 23 : cell == 23 ? 0 : cell);
        }
        x.cutSheet(0);
        due("the pack has the sheet's cards", x.pack(0, 0), 23);
    }

    private static void sheetKeepsLeans() {
        Shop x = new Shop();
        x.lean(3, 4);
        x.print(false);
        x.lean(3, 0);
        x.print(false);
        x.lean(3, 9);
        x.cutSheet(0);
        due("no lean on the later one", x.why(), 0);
        x.pulp();
        x.lean(3, 0);
        x.cutSheet(0);
        due("the lean on the one before", x.why(), 2);
    }

    private static void sheetKeepsMarks() {
        Shop x = new Shop();
        x.mark(11, 3, true);
        x.print(false);
        x.print(true);
        x.mark(11, 3, false);
        x.mark(12, 0, true);
        due("not turned", x.sheet(1, 11, 1), 8);
        due("not turned, the mark that came later", x.sheet(1, 12, 1), 0);
        due("turned", x.sheet(0, 12, 1), 8);
        x.cutSheet(0);
        due("the pack has the sheet's marks", x.pack(12, 1), 8);
        due("not those of the block", x.pack(11, 1), 0);
    }

    private static void turnedSheets() {
        for (int cell = 0; cell < CELLS; cell++) {
            Shop x = new Shop();
            x.mark(cell, cell % 4, true);
            x.print(false);
            x.print(true);
            for (int other = 0; other < CELLS; other++) {
                due("not turned", x.sheet(1, other, 1), other == cell ? 1 << cell % 4 : 0);
                due("turned", x.sheet(0, other, 1), other == 23 - cell ? 1 << cell % 4 : 0);
                due("the cards are not turned", x.sheet(0, other, 0), other);
            }
        }
    }

    private static void pileOfSix() {
        Shop x = new Shop();
        due("empty", x.count(0), 0);
        for (int sheets = 1; sheets <= 6; sheets++) {
            int k = sheets;
            acts(x, "print", () -> x.print(false), k);
            due("sheets", x.count(0), k);
        }
        stays(x, "a 7th", () -> x.print(false), FULL);
        stays(x, "a 7th, turned", () -> x.print(true), FULL);
        x.cutSheet(0);
        acts(x, "a 6th again", () -> x.print(true), 6);
        stays(x, "a 7th again", () -> x.print(true), FULL);
        x.undo();
        due("five", x.count(0), 5);
        acts(x, "a 6th once more", () -> x.print(true), 6);
    }

    private static void latestOnTop() {
        Shop x = new Shop();
        for (int k = 0; k < 6; k++) {
            x.print(false);
            x.swap(k, k + 1);
        }
        for (int sheet = 0; sheet < 6; sheet++) {
            due("the card 0 wanders", x.sheet(sheet, 5 - sheet, 0), 0);
        }
        for (int sheets = 6; sheets >= 1; sheets--) {
            x.cutSheet(0);
            due("the latest is cut", x.pack(sheets - 1, 0), 0);
            x.pulp();
        }
        due("empty", x.count(0), 0);
    }

    // ---- packs

    private static void wayOfCutting(int way) {
        Shop x = new Shop();
        x.print(false);
        acts(x, "cutSheet(" + way + ")", () -> x.cutSheet(way), 0);
        order(x, WAYS[way]);
        Shop y = new Shop();
        for (int cell = 0; cell < 23; cell++) {
            y.swap(cell, cell + 1);
        }
        y.print(false);
        y.cutSheet(way);
        for (int place = 0; place < CELLS; place++) {
            due("the card of the cell", y.pack(place, 0), (WAYS[way][place] + 1) % CELLS);
            due("the place of the card", y.cardOf((WAYS[way][place] + 1) % CELLS, 2), place);
        }
    }

    private static void topSheetIsCut() {
        Shop x = new Shop();
        stays(x, "an empty pile", () -> x.cutSheet(3), NOT_POSSIBLE);
        x.swap(0, 5);
        x.print(false);
        x.swap(0, 5);
        x.print(false);
        acts(x, "one of two", () -> x.cutSheet(0), 1);
        due("the top one's card", x.pack(0, 0), 0);
        due("the one below is on top then", x.sheet(0, 0, 0), 5);
        due("there is no other", x.sheet(1, 0, 0), UNKNOWN);
        x.pulp();
        acts(x, "the last one", () -> x.cutSheet(0), 0);
        due("its card", x.pack(0, 0), 5);
        x.pulp();
        stays(x, "an empty pile again", () -> x.cutSheet(0), NOT_POSSIBLE);
    }

    private static void onePackAtATime() {
        Shop x = withPack(0);
        x.print(false);
        stays(x, "a second one", () -> x.cutSheet(1), NOT_POSSIBLE);
        x.deal(23);
        stays(x, "with one card left", () -> x.cutSheet(1), NOT_POSSIBLE);
        x.deal(1);
        due("there is a pack", x.count(2), 1);
        stays(x, "with no card left", () -> x.cutSheet(1), NOT_POSSIBLE);
        x.pulp();
        due("there is none", x.count(2), 0);
        acts(x, "the next one", () -> x.cutSheet(1), 0);
        x.sell();
        x.print(false);
        acts(x, "one after a sale", () -> x.cutSheet(1), 0);
    }

    private static void places() {
        Shop x = withPack(1);
        due("the one that came first", x.pack(0, 0), 0);
        due("the one that came second", x.pack(1, 0), 6);
        due("the last one", x.pack(23, 0), 23);
        stays(x, "above the top", () -> x.pack(-1, 0), UNKNOWN);
        stays(x, "below the last one", () -> x.pack(24, 0), UNKNOWN);
    }

    private static void cutAtEach() {
        for (int left = 2; left <= CELLS; left++) {
            for (int top = 1; top < left; top++) {
                Shop x = withCards(left);
                int[] then = cut(from(CELLS - left), top);
                due("cutPack(" + top + ") of " + left, x.cutPack(top), then[0]);
                order(x, then);
            }
        }
    }

    private static void shuffleAtEach() {
        for (int left = 2; left <= CELLS; left++) {
            for (int top = 1; top < left; top++) {
                Shop x = withCards(left);
                int[] cards = from(CELLS - left);
                int[] then = shuffled(cards, top);
                int moved = 0;
                for (int place = 0; place < left; place++) {
                    moved += then[place] == cards[place] ? 0 : 1;
                }
                due("shuffle(" + top + ") of " + left, x.shuffle(top), moved);
                order(x, then);
            }
        }
    }

    private static void onePartUsedUp() {
        Shop both = withCards(6);
        due("parts of 3 and 3", both.shuffle(3), 4);
        order(both, 18, 21, 19, 22, 20, 23);
        Shop first = withCards(6);
        due("parts of 1 and 5", first.shuffle(1), 0);
        order(first, 18, 19, 20, 21, 22, 23);
        Shop second = withCards(6);
        due("parts of 5 and 1", second.shuffle(5), 5);
        order(second, 18, 23, 19, 20, 21, 22);
        Shop odd = withCards(5);
        due("parts of 3 and 2", odd.shuffle(3), 4);
        order(odd, 19, 22, 20, 23, 21);
        Shop more = withCards(5);
        due("parts of 2 and 3", more.shuffle(2), 2);
        order(more, 19, 21, 20, 22, 23);
        Shop two = withCards(2);
        due("parts of 1 and 1", two.shuffle(1), 0);
        order(two, 22, 23);
    }

    private static void dealtCards() {
        Shop x = withPack(2);
        x.cutPack(7);
        acts(x, "deal(3)", () -> x.deal(3), 21);
        int[] dealt = {10, 9, 8};
        for (int card : dealt) {
            due("its place", x.cardOf(card, 2), NONE);
            due("its marks are told", x.cardOf(card, 3), 0);
        }
        due("the top one then", x.pack(0, 0), 7);
        due("the last place", x.pack(20, 0), 11);
        stays(x, "beyond", () -> x.pack(21, 0), UNKNOWN);
        due("left", x.count(3), 21);
        due("dealt", x.count(4), 3);
        x.cutPack(1);
        x.shuffle(10);
        due("dealt cards do not come back", x.cardOf(9, 2), NONE);
        due("dealt", x.count(4), 3);
        x.undo();
        x.undo();
        x.undo();
        due("but by undo", x.cardOf(9, 2), 1);
        due("dealt", x.count(4), 0);
    }

    // ---- the sharper

    private static void marksFromTheSheet() {
        Shop x = new Shop();
        x.mark(0, 0, true);
        x.swap(0, 8);
        x.print(false);
        x.mark(0, 0, false);
        x.swap(0, 8);
        x.cutSheet(1);
        due("the card that lay there", x.cardOf(8, 3), 1);
        due("not the one that lies there now", x.cardOf(0, 3), 0);
        due("it is known", x.pack(0, 4), 1);
        x.pulp();
        due("no pack, no marks", x.cardOf(8, 3), NONE);
    }

    private static void justTheMarks() {
        Shop x = new Shop();
        change(x, "m1=0;m2=0;m2=1;m3=1;m4=0;m5=0;m5=1;m5=2");
        x.print(false);
        x.cutSheet(0);
        int[] canBe = {19, 2, 1, 1, 2, 1, 19};
        for (int place = 0; place < canBe.length; place++) {
            due("as many can be at " + place, x.pack(place, 2), canBe[place]);
        }
    }

    private static void thoseNotDealt() {
        Shop x = new Shop();
        change(x, "m0=0;m1=0;m23=0");
        x.print(false);
        x.cutSheet(0);
        due("three can be", x.pack(23, 2), 3);
        x.deal(1);
        due("two", x.pack(22, 2), 2);
        due("the lowest of two", x.pack(22, 3), 1);
        x.deal(1);
        due("one", x.pack(21, 2), 1);
        due("it is known", x.pack(21, 4), 1);
        due("the others are not", x.count(5), 1);
        due("21 can be at the top", x.pack(0, 2), 21);
        x.deal(20);
        due("the last two are known", x.count(5), 2);
        x.deal(2);
        due("none is left to know", x.count(5), 0);
    }

    private static void onlyOne() {
        for (int cell = 0; cell < CELLS; cell++) {
            Shop x = new Shop();
            x.mark(cell, 2, true);
            x.print(false);
            x.cutSheet(0);
            for (int place = 0; place < CELLS; place++) {
                due("known", x.pack(place, 4), place == cell ? 1 : 0);
            }
            due("one is known", x.count(5), 1);
        }
        Shop none = withPack(0);
        due("none is known without flaws", none.count(5), 0);
        none.deal(22);
        due("nor of two", none.count(5), 0);
        none.deal(1);
        due("the last one is", none.count(5), 1);
    }

    private static void lowestOfThose() {
        Shop x = withPack(0);
        for (int place = 0; place < CELLS; place++) {
            due("the lowest of all", x.pack(place, 3), 0);
        }
        due("right once", x.count(6), 1);
        x.cutPack(9);
        due("wherever they lie", x.pack(23, 3), 0);
        x.deal(15);
        due("the lowest that is left", x.pack(8, 3), 0);
        x.deal(1);
        due("the lowest that is left then", x.pack(0, 3), 1);
        due("right once", x.count(6), 1);
        Shop y = new Shop();
        change(y, "m23=3;m22=3;m4=1;m7=1;m9=1");
        y.print(false);
        y.cutSheet(2);
        due("of two", y.pack(y.cardOf(23, 2), 3), 22);
        due("of three", y.pack(y.cardOf(9, 2), 3), 4);
        due("one of each set", y.count(6), 3);
    }

    private static void oneInAsMany() {
        Shop x = new Shop();
        change(x, "m0=0;m5=0;m6=0;m9=1");
        x.print(false);
        x.cutSheet(0);
        float sum = 0.0f;
        int[] canBe = {3, 20, 20, 20, 20, 3, 3, 20, 20, 1};
        for (int place = 0; place < CELLS; place++) {
            sum += 1.0f / (place < canBe.length ? canBe[place] : 20);
        }
        due("whole", x.chances(), sum);
        x.deal(23);
        due("one card", x.chances(), 1.0f);
        x.deal(1);
        due("no card", x.chances(), 0.0f);
        x.pulp();
        due("no pack", x.chances(), -1.0f);
        for (int left = 1; left <= CELLS; left++) {
            float alike = 0.0f;
            for (int place = 0; place < left; place++) {
                alike += 1.0f / left;
            }
            due("all alike, " + left, withCards(left).chances(), alike);
        }
    }

    /** The cell k gets the set k of marks, as far as there are sets. */
    private static Shop allSets() {
        Shop x = new Shop();
        for (int set = 1; set < 16; set++) {
            for (int mark = 0; mark < 4; mark++) {
                if ((set >> mark & 1) == 1) {
                    x.mark(set, mark, true);
                }
            }
        }
        return x;
    }

    private static void mostKnown() {
        Shop x = allSets();
        due("before the printing", x.ifPrinted(false), 15);
        due("turned", x.ifPrinted(true), 15);
        x.set(2, 15);
        x.print(false);
        x.cutSheet(0);
        due("known", x.count(5), 15);
        due("guessed right", x.count(6), 16);
        for (int place = 0; place < CELLS; place++) {
            due("can be", x.pack(place, 2), place >= 1 && place < 16 ? 1 : 9);
        }
        due("it can be sold", x.why(), 0);
        x.set(2, 14);
        due("it can not", x.why(), 3);
    }

    // ---- settings

    private static void range(int which, int least, int most, int first) {
        Shop x = new Shop();
        due("at first", x.count(14 + which), first);
        stays(x, "as it is", () -> x.set(which, first), NONE);
        stays(x, "below the least", () -> x.set(which, least - 1), BAD_VALUE);
        stays(x, "above the most", () -> x.set(which, most + 1), BAD_VALUE);
        acts(x, "the least", () -> x.set(which, least), first);
        due("told", x.count(14 + which), least);
        stays(x, "the least again", () -> x.set(which, least), NONE);
        stays(x, "below the least", () -> x.set(which, least - 1), BAD_VALUE);
        acts(x, "the most", () -> x.set(which, most), least);
        due("told", x.count(14 + which), most);
        stays(x, "the most again", () -> x.set(which, most), NONE);
        stays(x, "above the most", () -> x.set(which, most + 1), BAD_VALUE);
        for (int far : new int[] {LOW, LOW + 1, -256, 100, 256, HIGH}) {
            stays(x, "far off", () -> x.set(which, far), BAD_VALUE);
        }
        for (int other = 0; other < 4; other++) {
            if (other != which) {
                due("the others stay", x.count(14 + other), new int[] {10, 3, 4, 12}[other]);
            }
        }
    }

    private static void noOtherSettings() {
        Shop x = new Shop();
        for (int which : new int[] {-1, 4, 5, 14, LOW, HIGH}) {
            for (int value : new int[] {0, 1, 9, 10}) {
                stays(x, "set(" + which + ", " + value + ")", () -> x.set(which, value), BAD_VALUE);
            }
        }
    }

    private static void eachOfARange() {
        int[][] ranges = {{1, 99}, {0, 9}, {0, 24}, {1, 99}};
        for (int which = 0; which < 4; which++) {
            Shop x = new Shop();
            for (int value = ranges[which][0]; value <= ranges[which][1]; value++) {
                int before = x.count(14 + which);
                due("set", x.set(which, value), before == value ? NONE : before);
                due("told", x.count(14 + which), value);
            }
        }
    }

    // ---- sales

    private static void dealtFrom() {
        Shop x = withPack(0);
        stays(x, "whole", x::why, 0);
        Shop sold = x.again();
        acts(sold, "whole, sold", sold::sell, 12);
        x.deal(1);
        stays(x, "one dealt", x::why, 1);
        stays(x, "one dealt, not sold", x::sell, -11);
        x.deal(23);
        stays(x, "all dealt", x::why, 1);
        stays(x, "all dealt, not sold", x::sell, -11);
        x.undo();
        x.undo();
        stays(x, "none dealt", x::why, 0);
    }

    private static void leansByMore() {
        for (int limit = 0; limit <= 9; limit++) {
            for (int sign = -1; sign <= 1; sign += 2) {
                Shop x = new Shop();
                x.set(1, limit);
                x.lean(16, sign * limit);
                x.print(false);
                if (limit < 9) {
                    x.lean(16, sign * (limit + 1));
                    x.print(false);
                    x.cutSheet(0);
                    stays(x, "by one more", x::why, 2);
                    stays(x, "by one more, not sold", x::sell, -12);
                    due("one of now", x.count(11), 1);
                    x.pulp();
                }
                x.cutSheet(0);
                stays(x, "by no more", x::why, 0);
                due("sold", x.sell(), 12);
                x.lean(16, sign * limit);
                due("none of now", x.count(11), 0);
            }
        }
    }

    private static void leansOnItsSheet() {
        Shop x = new Shop();
        x.print(false);
        x.lean(9, 4);
        x.cutSheet(0);
        stays(x, "it came later", x::why, 0);
        due("it is there now", x.count(11), 1);
        x.pulp();
        x.print(false);
        x.lean(9, 3);
        x.cutSheet(0);
        stays(x, "it is gone now", x::why, 2);
        due("it is not there now", x.count(11), 0);
        x.set(1, 4);
        stays(x, "the setting is that of now", x::why, 0);
    }

    private static void eachCourtLeans() {
        for (int card = 0; card < CELLS; card++) {
            if (card % 6 >= 3) {
                Shop x = new Shop();
                x.lean(card, card % 2 == 0 ? 4 : -4);
                x.print(true);
                due("now", x.count(11), 1);
                x.cutSheet(card % 4);
                stays(x, "the court " + card, x::why, 2);
            }
        }
        Shop all = new Shop();
        for (int card = 0; card < CELLS; card++) {
            all.lean(card, card % 2 == 0 ? 9 : -9);
        }
        due("all the courts", all.count(11), 12);
        all.set(1, 9);
        due("none of them", all.count(11), 0);
    }

    private static void moreKnown() {
        Shop x = allSets();
        x.print(false);
        x.cutSheet(0);
        for (int may = 0; may <= 24; may++) {
            x.set(2, may);
            due("15 known, allowed " + may, x.why(), may < 15 ? 3 : 0);
        }
        x.set(2, 14);
        stays(x, "not sold", x::sell, -13);
        x.set(2, 15);
        acts(x, "sold", x::sell, 12);
        Shop none = withPack(0);
        none.set(2, 0);
        stays(none, "none known, none allowed", none::why, 0);
        Shop four = new Shop();
        change(four, "m0=0;m1=1;m2=2;m3=3");
        four.print(false);
        four.mark(4, 0, true);
        four.mark(4, 1, true);
        four.print(false);
        four.cutSheet(0);
        stays(four, "five", four::why, 3);
        four.pulp();
        four.cutSheet(0);
        stays(four, "four, just as allowed at first", four::why, 0);
    }

    private static void firstReason() {
        Shop x = allSets();
        x.lean(3, 9);
        x.print(false);
        x.cutSheet(0);
        stays(x, "2 and 3", x::why, 2);
        stays(x, "2 and 3, not sold", x::sell, -12);
        x.deal(1);
        stays(x, "1, 2 and 3", x::why, 1);
        stays(x, "1, 2 and 3, not sold", x::sell, -11);
        x.set(1, 9);
        stays(x, "1 and 3", x::why, 1);
        x.set(2, 24);
        stays(x, "1", x::why, 1);
        x.undo();
        x.undo();
        x.undo();
        x.set(1, 9);
        stays(x, "3", x::why, 3);
    }

    private static void soldForThePrice() {
        Shop x = new Shop();
        int coins = 0;
        int[] prices = {1, 2, 99, 12, 50};
        for (int k = 0; k < prices.length; k++) {
            int price = prices[k];
            x.set(3, price);
            x.print(false);
            x.cutSheet(k % 4);
            acts(x, "sell", x::sell, price);
            coins += price;
            due("coins", x.count(9), coins);
            due("sold", x.count(7), k + 1);
            due("pulped", x.count(8), 0);
            due("no pack", x.count(2), 0);
            stays(x, "no more", x::sell, NOT_POSSIBLE);
        }
        x.undo();
        due("coins, undone", x.count(9), coins - 50);
        due("sold, undone", x.count(7), 4);
    }

    private static void pulpedForNothing() {
        int[] dealt = {0, 1, 23, 24};
        Shop x = new Shop();
        for (int k = 0; k < dealt.length; k++) {
            x.print(false);
            x.cutSheet(0);
            if (dealt[k] > 0) {
                x.deal(dealt[k]);
            }
            int left = CELLS - dealt[k];
            acts(x, "pulp", x::pulp, left);
            due("coins", x.count(9), 0);
            due("sold", x.count(7), 0);
            due("pulped", x.count(8), k + 1);
            due("no pack", x.count(2), 0);
            stays(x, "no more", x::pulp, NOT_POSSIBLE);
        }
        due("all of it", Arrays.toString(new int[] {x.count(3), x.count(4), x.count(5), x.count(6)})
            .equals("[0, 0, 0, 0]") ? 1 : 0, 1);
    }
}
