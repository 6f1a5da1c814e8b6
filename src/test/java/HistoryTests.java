/** The sentences of "HISTORY": what is recorded, how much of it, and the snapshot. */
public final class HistoryTests extends Checks {
    private HistoryTests() {
    }

    public static void main(String[] args) {
        says("at most 4 states; when one more is recorded, the oldest one is dropped", HistoryTests::oldestDropped);
        says("undo() removes and restores the latest one", HistoryTests::latestFirst);
        says("the number of states that are left; NONE if the history is empty", HistoryTests::emptyHistory);
        says("states that were removed make room", HistoryTests::roomAgain);
        says("each call of an act records the state that was before it", HistoryTests::eachAct);
        says("and returns no error and not NONE", HistoryTests::refusedActs);
        says("type, clearText, fault, undo, keep and what tells are no acts", HistoryTests::noActs);
        says("there is one snapshot, empty at first", HistoryTests::emptySnapshot);
        says("a snapshot in place of the one that was", HistoryTests::anotherSnapshot);
        says("the snapshot stays", HistoryTests::snapshotStays);
        says("restore is an act", HistoryTests::restoreIsAnAct);
        says("a state is everything but the text ..", HistoryTests::notTheText);
        says(".. the history ..", HistoryTests::notTheHistory);
        says(".. and the snapshot", HistoryTests::notTheSnapshot);
        says("a state is everything: undo", HistoryTests::everythingUndone);
        says("a state is everything: restore", HistoryTests::everythingRestored);
        says("a state does not change by what comes later", HistoryTests::statesStay);
        says("how many sheets were printed so far", HistoryTests::printedSoFar);
        finish("sentences of the history");
    }

    private static void oldestDropped() {
        for (int acts = 1; acts <= 12; acts++) {
            Shop x = new Shop();
            for (int k = 0; k < acts; k++) {
                x.swap(k, k + 1);
            }
            int states = Math.min(acts, 4);
            due("states after " + acts, x.count(12), states);
            for (int left = states - 1; left >= 0; left--) {
                due("undo", x.undo(), left);
                due("left", x.count(12), left);
            }
            stays(x, "no more", x::undo, NONE);
            int done = acts - states;
            for (int cell = 0; cell < CELLS; cell++) {
                due("the card of " + cell, x.block(cell, 0), cell < done ? cell + 1 : cell == done ? 0 : cell);
            }
        }
    }

    private static void latestFirst() {
        Shop x = new Shop();
        x.mark(0, 0, true);
        x.mark(1, 0, true);
        x.mark(2, 0, true);
        due("undo", x.undo(), 2);
        due("the third is undone", x.block(2, 1), 0);
        due("the second is not", x.block(1, 1), 1);
        due("undo", x.undo(), 1);
        due("the second is undone", x.block(1, 1), 0);
        due("the first is not", x.block(0, 1), 1);
        due("undo", x.undo(), 0);
        due("all are undone", x.count(10), 0);
    }

    private static void emptyHistory() {
        Shop x = new Shop();
        stays(x, "a new one", x::undo, NONE);
        stays(x, "again", x::undo, NONE);
        x.swap(0, 1);
        due("one", x.undo(), 0);
        stays(x, "none", x::undo, NONE);
        x.keep();
        stays(x, "a snapshot is no history", x::undo, NONE);
        x.type('s');
        stays(x, "a text is no history", x::undo, NONE);
    }

    private static void roomAgain() {
        Shop x = new Shop();
        for (int round = 0; round < 10; round++) {
            for (int k = 0; k < 3; k++) {
                x.mark(2 * round + k % 2, k / 2 + round % 3, true);
            }
            String before = x.toldBack(1);
            due("undo", x.undo(), x.count(12));
            same("the state before", x.toldBack(0), before);
            int states = x.count(12);
            due("an act", x.mark(23, 3, round % 2 == 0) >= 0 ? 1 : 0, 1);
            due("recorded", x.count(12), Math.min(states + 1, 4));
        }
        due("full", x.count(12), 4);
        due("undo", x.undo(), 3);
        due("undo", x.undo(), 2);
        acts(x, "in the middle", () -> x.swap(3, 4), 4);
        due("three", x.count(12), 3);
        due("undo", x.undo(), 2);
        due("undo", x.undo(), 1);
        due("undo", x.undo(), 0);
        stays(x, "no more", x::undo, NONE);
    }

    private static void eachAct() {
        Shop x = new Shop();
        acts(x, "swap", () -> x.swap(0, 3), 3);
        acts(x, "mark", () -> x.mark(0, 0, true), 1);
        acts(x, "mark taken", () -> x.mark(0, 0, false), 0);
        acts(x, "lean", () -> x.lean(3, 1), 100);
        x.write("m1=2");
        acts(x, "changeAll", x::changeAll, 1);
        acts(x, "set", () -> x.set(2, 24), 4);
        acts(x, "print", () -> x.print(false), 1);
        acts(x, "print turned", () -> x.print(true), 2);
        acts(x, "cutSheet", () -> x.cutSheet(1), 1);
        acts(x, "cutPack", () -> x.cutPack(5), 7);
        acts(x, "shuffle", () -> x.shuffle(7), 12);
        acts(x, "a shuffle that moves none", () -> x.shuffle(1), 0);
        Shop sold = x.again();
        acts(sold, "sell", sold::sell, 12);
        acts(x, "deal", () -> x.deal(4), 20);
        acts(x, "pulp", x::pulp, 20);
        x.keep();
        acts(x, "restore of the same", x::restore, 2);
        acts(x, "swap again", () -> x.swap(0, 3), 0);
        acts(x, "restore", x::restore, 2);
    }

    private static void refusedActs() {
        for (int states = 0; states <= 5; states++) {
            Shop x = new Shop();
            for (int k = 0; k < states; k++) {
                x.swap(k, k + 1);
            }
            stays(x, "swap of the same", () -> x.swap(4, 4), NONE);
            stays(x, "swap", () -> x.swap(4, 24), UNKNOWN);
            stays(x, "mark", () -> x.mark(4, 0, false), NONE);
            stays(x, "lean", () -> x.lean(0, 1), NOT_POSSIBLE);
            stays(x, "set", () -> x.set(0, 0), BAD_VALUE);
            stays(x, "changeAll", x::changeAll, -100);
            stays(x, "cutSheet", () -> x.cutSheet(0), NOT_POSSIBLE);
            stays(x, "cutPack", () -> x.cutPack(1), NOT_POSSIBLE);
            stays(x, "shuffle", () -> x.shuffle(1), NOT_POSSIBLE);
            stays(x, "deal", () -> x.deal(1), NOT_POSSIBLE);
            stays(x, "sell", x::sell, NOT_POSSIBLE);
            stays(x, "pulp", x::pulp, NOT_POSSIBLE);
            stays(x, "restore", x::restore, NONE);
        }
    }

    private static void noActs() {
        Shop x = withPack(0);
        int states = x.count(12);
        x.type('s');
        x.clearText();
        x.fault();
        x.keep();
        x.block(0, 0);
        x.cardOf(0, 0);
        x.sheet(0, 0, 0);
        x.pack(0, 0);
        x.why();
        x.chances();
        x.ifPrinted(true);
        x.worstFlaw(0);
        x.bestWay();
        x.backIn(5);
        due("the states", x.count(12), states);
        due("undo takes one", x.undo(), states - 1);
        due("and records none", x.count(12), states - 1);
    }

    private static void emptySnapshot() {
        Shop x = new Shop();
        stays(x, "restore", x::restore, NONE);
        x.print(false);
        stays(x, "restore after an act", x::restore, NONE);
        x.undo();
        stays(x, "restore after an undo", x::restore, NONE);
        due("keep", x.keep(), 0);
        acts(x, "restore of the first state", x::restore, 0);
    }

    private static void anotherSnapshot() {
        Shop x = new Shop();
        x.mark(0, 0, true);
        x.keep();
        x.mark(1, 1, true);
        x.keep();
        x.mark(2, 2, true);
        x.restore();
        due("the later one has the mark", x.block(1, 1), 2);
        due("and not that behind it", x.block(2, 1), 0);
        x.undo();
        x.undo();
        x.undo();
        due("back before it", x.block(1, 1), 0);
        x.keep();
        x.mark(3, 3, true);
        x.restore();
        due("an older state is kept then", x.block(1, 1), 0);
        due("with its mark", x.block(0, 1), 1);
    }

    private static void snapshotStays() {
        Shop x = new Shop();
        x.print(false);
        x.keep();
        for (int times = 0; times < 6; times++) {
            x.print(false);
            x.cutSheet(0);
            acts(x, "restore", x::restore, 1);
            due("one sheet", x.count(0), 1);
            due("no pack", x.count(2), 0);
        }
    }

    private static void restoreIsAnAct() {
        Shop x = new Shop();
        x.keep();
        x.swap(0, 1);
        acts(x, "restore", x::restore, 0);
        due("back", x.block(0, 0), 0);
        due("undo", x.undo(), 1);
        due("not back", x.block(0, 0), 1);
        for (int times = 1; times <= 5; times++) {
            x.restore();
        }
        due("full", x.count(12), 4);
    }

    private static void notTheText() {
        Shop x = new Shop();
        x.write("s0/1");
        x.keep();
        x.swap(0, 1);
        x.write("m1=");
        due("undo", x.undo(), 0);
        due("the length", x.count(13), 3);
        due("the fault", x.fault(), 3);
        due("restore", x.restore(), 0);
        due("the length", x.count(13), 3);
        x.type('2');
        due("it goes on", x.changeAll(), 1);
        x.clearText();
        x.undo();
        due("cleared", x.count(13), 0);
        x.restore();
        due("cleared", x.count(13), 0);
    }

    private static void notTheHistory() {
        Shop x = new Shop();
        x.swap(0, 1);
        x.keep();
        x.swap(1, 2);
        x.swap(2, 3);
        due("restore", x.restore(), 0);
        due("the history goes on", x.count(12), 4);
        due("undo of it", x.undo(), 3);
        due("the third swap is there", x.block(3, 0), 0);
        due("undo", x.undo(), 2);
        due("undo", x.undo(), 1);
        due("undo", x.undo(), 0);
        due("the first state", x.block(0, 0), 0);
    }

    private static void notTheSnapshot() {
        Shop x = new Shop();
        x.swap(0, 1);
        x.swap(2, 3);
        x.keep();
        due("undo", x.undo(), 1);
        due("undo", x.undo(), 0);
        String back = x.toldBack(0);
        same("as at first", back, new Shop().toldBack(0));
        acts(x, "the snapshot is still there", x::restore, 0);
        due("its cards", x.block(2, 0), 3);
        due("keep", x.keep(), 0);
        due("undo", x.undo(), 0);
        acts(x, "it is the later one", x::restore, 0);
        due("its cards", x.block(0, 0), 1);
    }

    /** A state in which all parts are other than at first. */
    private static Shop busy() {
        Shop x = new Shop();
        x.write("s0/9;m3=1;m8=2;l5=2;l9=-3");
        x.changeAll();
        x.set(0, 2);
        x.set(1, 5);
        x.set(2, 9);
        x.set(3, 7);
        x.print(true);
        x.cutSheet(3);
        x.sell();
        x.print(false);
        x.cutSheet(2);
        x.pulp();
        x.print(true);
        x.print(false);
        x.cutSheet(1);
        x.shuffle(5);
        x.deal(3);
        return x;
    }

    /** Four acts or fewer that change one part each. */
    private static void changeParts(Shop x, int part) {
        switch (part) {
            case 0:
                x.swap(0, 1);
                x.mark(3, 1, false);
                x.lean(9, 0);
                x.print(false);
                break;
            case 1:
                x.set(0, 11);
                x.set(1, 1);
                x.set(2, 2);
                x.set(3, 3);
                break;
            case 2:
                x.cutPack(4);
                x.shuffle(9);
                x.deal(2);
                x.pulp();
                break;
            case 3:
                x.pulp();
                x.cutSheet(0);
                x.set(2, 24);
                x.sell();
                break;
            default:
                x.pulp();
                x.print(true);
                x.print(true);
                x.cutSheet(3);
                break;
        }
    }

    private static void everythingUndone() {
        for (int part = 0; part <= 4; part++) {
            Shop x = busy();
            String before = x.toldBack(0);
            changeParts(x, part);
            due("other than before", x.toldBack(0).equals(before) ? 1 : 0, 0);
            for (int left = 3; left >= 0; left--) {
                due("undo", x.undo(), left);
            }
            same("the state before", x.toldBack(0), before);
        }
    }

    private static void everythingRestored() {
        for (int part = 0; part <= 4; part++) {
            Shop x = busy();
            x.keep();
            String before = x.toldBack(0);
            changeParts(x, part);
            String then = x.toldBack(0);
            acts(x, "restore", x::restore, 4);
            same("what was kept", x.toldBack(0), before);
            changeParts(x, (part + 1) % 5);
            acts(x, "restore again", x::restore, 4);
            same("what was kept", x.toldBack(0), before);
            changeParts(x, part);
            same("the same acts", x.toldBack(0), then);
        }
    }

    private static void statesStay() {
        Shop x = busy();
        x.keep();
        x.swap(4, 5);
        String before = x.toldBack(1);
        String snapshot = x.toldOfSnapshot();
        x.cutPack(3);
        x.deal(1);
        x.pulp();
        same("recorded three acts ago", x.toldBack(4), before);
        same("the snapshot", x.toldOfSnapshot(), snapshot);
        x.restore();
        x.cutPack(3);
        x.shuffle(3);
        x.deal(5);
        same("the snapshot after acts on what it restored", x.toldOfSnapshot(), snapshot);
        Shop y = new Shop();
        y.print(false);
        y.keep();
        y.cutSheet(0);
        y.pulp();
        y.swap(0, 1);
        y.print(true);
        y.restore();
        due("the sheet of the snapshot", y.sheet(0, 0, 0), 0);
        y.undo();
        due("the sheet that came in its place", y.sheet(0, 0, 0), 1);
    }

    private static void printedSoFar() {
        Shop x = new Shop();
        due("keep", x.keep(), 0);
        for (int times = 1; times <= 6; times++) {
            x.print(false);
            due("keep", x.keep(), times);
        }
        x.cutSheet(0);
        x.sell();
        due("keep, with a sheet less", x.keep(), 6);
        x.print(false);
        due("restore", x.restore(), 6);
        due("printed", x.count(1), 6);
        x.undo();
        due("printed, undone", x.count(1), 7);
        due("keep", x.keep(), 7);
        due("restore", x.restore(), 7);
    }
}
