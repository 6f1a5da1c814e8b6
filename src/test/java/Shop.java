import java.util.ArrayList;
import java.util.List;
import java.util.function.ToDoubleFunction;

/**
 * A CardSheets that remembers its calls, so that all that it would tell can be asked of others to
 * which the same was done. None is called more often than the document promises answers for.
 */
final class Shop {
    private static final int MOST_CALLS = 512;
    private static final int CELLS = 24;
    private static final int STATES = 4;

    private interface Part {
        void tell(Shop shop, StringBuilder all);
    }

    private static final Part[] PARTS = {
        Shop::tellNumbers, Shop::tellBlocks, Shop::tellCards, Shop::tellText,
        (shop, all) -> shop.tellSheets(0, all), (shop, all) -> shop.tellSheets(2, all),
        (shop, all) -> shop.tellSheets(4, all), Shop::tellPack};
    private static final Part TEXT = PARTS[3];

    private final CardSheets sheets = new CardSheets();
    private final List<ToDoubleFunction<CardSheets>> calls = new ArrayList<>();
    private final List<Double> answers = new ArrayList<>();

    private double call(ToDoubleFunction<CardSheets> call) {
        if (calls.size() >= MOST_CALLS) {
            throw new IllegalStateException("a test makes more than 512 calls");
        }
        double answer = call.applyAsDouble(sheets);
        calls.add(call);
        answers.add(answer);
        return answer;
    }

    private int number(ToDoubleFunction<CardSheets> call) {
        return (int) call(call);
    }

    /** Another one to which the same was done, and which answered the same. */
    Shop again() {
        Shop other = new Shop();
        for (int k = 0; k < calls.size(); k++) {
            double answer = other.call(calls.get(k));
            if (answer != answers.get(k)) {
                throw new IllegalStateException("the same calls, and another answer to call " + k + ": " + answer);
            }
        }
        return other;
    }

    /** All that is told: of the state, the text, each state in the history and the snapshot. */
    String told() {
        StringBuilder all = new StringBuilder();
        all.append("states ").append(again().count(12)).append('\n');
        for (int steps = 0; steps <= STATES; steps++) {
            all.append("undone ").append(steps).append(": ").append(toldBack(steps)).append('\n');
        }
        tellPart(TEXT, 0, all);
        return all.append(toldOfSnapshot()).toString();
    }

    /** All that is told of the state, so many undos back; nothing if there are fewer. */
    String toldBack(int undos) {
        StringBuilder all = new StringBuilder();
        if (undos <= again().count(12)) {
            for (Part part : PARTS) {
                if (part != TEXT) {
                    tellPart(part, undos, all);
                }
            }
        }
        return all.toString();
    }

    String toldOfText() {
        StringBuilder all = new StringBuilder();
        tellPart(TEXT, 0, all);
        return all.toString();
    }

    String toldOfSnapshot() {
        StringBuilder all = new StringBuilder("snapshot ");
        all.append(again().restore()).append('\n');
        for (Part part : PARTS) {
            Shop other = again();
            if (part != TEXT && other.restore() >= 0) {
                part.tell(other, all);
            }
        }
        return all.toString();
    }

    private void tellPart(Part part, int undos, StringBuilder all) {
        Shop other = again();
        for (int k = 0; k < undos; k++) {
            other.undo();
        }
        part.tell(other, all);
    }

    /** Not how many states the history has, nor how long the text is. */
    private void tellNumbers(StringBuilder all) {
        for (int what = 0; what <= 17; what++) {
            if (what != 12 && what != 13) {
                all.append(count(what)).append(' ');
            }
        }
        all.append(why()).append(' ').append(chances()).append(' ').append(bestWay()).append(' ');
        all.append(ifPrinted(false)).append(' ').append(ifPrinted(true)).append(' ');
        all.append(worstFlaw(0)).append(' ').append(worstFlaw(1)).append('\n');
    }

    private void tellBlocks(StringBuilder all) {
        for (int cell = 0; cell < CELLS; cell++) {
            all.append(block(cell, 0)).append(' ').append(block(cell, 1)).append(' ');
        }
        all.append('\n');
    }

    private void tellCards(StringBuilder all) {
        for (int card = 0; card < CELLS; card++) {
            for (int what = 0; what < 4; what++) {
                all.append(cardOf(card, what)).append(' ');
            }
        }
        all.append('\n');
    }

    private void tellSheets(int from, StringBuilder all) {
        for (int sheet = from; sheet < from + 2; sheet++) {
            for (int cell = 0; cell < CELLS; cell++) {
                all.append(sheet(sheet, cell, 0)).append(' ').append(sheet(sheet, cell, 1)).append(' ');
            }
        }
        all.append('\n');
    }

    private void tellPack(StringBuilder all) {
        for (int place = 0; place < CELLS; place++) {
            for (int what = 0; what < 5; what++) {
                all.append(pack(place, what)).append(' ');
            }
            all.append(backIn(place)).append(' ');
        }
        all.append('\n');
    }

    /** Its length, its fault, and what its changes do, as far as the blocks show it. */
    private void tellText(StringBuilder all) {
        all.append("text ").append(count(13)).append(' ').append(fault()).append(' ').append(changeAll()).append(' ');
        tellBlocks(all);
    }

    /** Types a text in place of the one that is there. */
    void write(String text) {
        clearText();
        for (int k = 0; k < text.length(); k++) {
            type(text.charAt(k));
        }
    }

    int swap(int cell, int other) {
        return number(x -> x.swap(cell, other));
    }

    int mark(int cell, int mark, boolean is) {
        return number(x -> x.mark(cell, mark, is));
    }

    int lean(int card, int lean) {
        return number(x -> x.lean(card, lean));
    }

    int changeAll() {
        return number(x -> x.changeAll());
    }

    int set(int which, int value) {
        return number(x -> x.set(which, value));
    }

    int print(boolean turned) {
        return number(x -> x.print(turned));
    }

    int cutSheet(int way) {
        return number(x -> x.cutSheet(way));
    }

    int cutPack(int top) {
        return number(x -> x.cutPack(top));
    }

    int shuffle(int top) {
        return number(x -> x.shuffle(top));
    }

    int deal(int cards) {
        return number(x -> x.deal(cards));
    }

    int sell() {
        return number(x -> x.sell());
    }

    int pulp() {
        return number(x -> x.pulp());
    }

    int type(char character) {
        return number(x -> x.type(character));
    }

    int clearText() {
        return number(x -> x.clearText());
    }

    int fault() {
        return number(x -> x.fault());
    }

    int undo() {
        return number(x -> x.undo());
    }

    int keep() {
        return number(x -> x.keep());
    }

    int restore() {
        return number(x -> x.restore());
    }

    int block(int cell, int what) {
        return number(x -> x.block(cell, what));
    }

    int cardOf(int card, int what) {
        return number(x -> x.cardOf(card, what));
    }

    int sheet(int sheet, int cell, int what) {
        return number(x -> x.sheet(sheet, cell, what));
    }

    int pack(int place, int what) {
        return number(x -> x.pack(place, what));
    }

    int count(int what) {
        return number(x -> x.count(what));
    }

    int why() {
        return number(x -> x.why());
    }

    float chances() {
        return (float) call(x -> x.chances());
    }

    int ifPrinted(boolean turned) {
        return number(x -> x.ifPrinted(turned));
    }

    int worstFlaw(int what) {
        return number(x -> x.worstFlaw(what));
    }

    int bestWay() {
        return number(x -> x.bestWay());
    }

    int backIn(int top) {
        return number(x -> x.backIn(top));
    }
}
