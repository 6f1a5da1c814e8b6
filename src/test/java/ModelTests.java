import java.util.ArrayList;
import java.util.List;
import java.util.regex.Matcher;
import java.util.regex.Pattern;

/**
 * Runs of 512 calls, each answer compared with a second, slow telling of the document that shares
 * nothing with the class: lists that are copied whole, texts read by a pattern.
 */
public final class ModelTests {
    private static final int RUNS = 1500;
    private static final int CALLS = 512;

    private static long seed;

    private ModelTests() {
    }

    // The runs are the same each time: the numbers are made here, from the number of the run.
    private static int pick(int below) {
        seed = seed * 6364136223846793005L + 1442695040888963407L;
        return (int) Math.floorMod(seed >>> 33, (long) below);
    }

    private static int oneOf(int... values) {
        return values[pick(values.length)];
    }

    /** Mostly in range, at times just or far outside. */
    private static int around(int least, int most) {
        return pick(20) == 0
            ? oneOf(least - 1, most + 1, -7, 99, Integer.MIN_VALUE, Integer.MAX_VALUE)
            : least + pick(most - least + 1);
    }

    public static void main(String[] args) {
        for (int run = 1; run <= RUNS; run++) {
            seed = run;
            pick(2);
            if (!agrees(run)) {
                System.exit(1);
            }
        }
        System.out.println(RUNS + " runs of " + CALLS + " calls agree with the model");
    }

    private static boolean agrees(int run) {
        CardSheets x = new CardSheets();
        Model model = new Model();
        List<String> calls = new ArrayList<>();
        int style = pick(6);
        for (int number = 1; number <= CALLS; number++) {
            double[] answers = new double[2];
            String call = callOfStyle(x, model, style, number, answers);
            calls.add(call + " = " + answers[0]);
            if (answers[0] != answers[1]) {
                System.out.println("run " + run + ", call " + number + ": " + call + " answered "
                    + answers[0] + ", the model " + answers[1]);
                calls.stream().skip(Math.max(0, calls.size() - 25)).forEach(System.out::println);
                return false;
            }
        }
        return true;
    }

    /** Some styles begin in a way, or keep to one, that leads where few calls of the others do. */
    private static String callOfStyle(CardSheets x, Model m, int style, int number, double[] answers) {
        if (style == 3 && number <= 24) {
            return markBoth(x, m, number - 1, answers);
        }
        if (style == 4 && number <= 60) {
            return swapBoth(x, m, answers);
        }
        if (style == 5 && pick(4) != 0) {
            return sellBoth(x, m, answers);
        }
        return callBoth(x, m, style, answers);
    }

    /** So that each way of cutting is the best one at times. */
    private static String swapBoth(CardSheets x, Model m, double[] answers) {
        int a = pick(24);
        int b = pick(24);
        answers[0] = x.swap(a, b);
        answers[1] = m.swap(a, b);
        return "swap(" + a + ", " + b + ")";
    }

    /** So that more sheets are printed than there are cells. */
    private static String sellBoth(CardSheets x, Model m, double[] answers) {
        switch (pick(4)) {
            case 0:
                boolean turned = pick(2) == 0;
                answers[0] = x.print(turned);
                answers[1] = m.print(turned);
                return "print(" + turned + ")";
            case 1:
                int way = pick(4);
                answers[0] = x.cutSheet(way);
                answers[1] = m.cutSheet(way);
                return "cutSheet(" + way + ")";
            case 2:
                answers[0] = x.sell();
                answers[1] = m.sell();
                return "sell()";
            default:
                answers[0] = x.pulp();
                answers[1] = m.pulp();
                return "pulp()";
        }
    }

    /** So that few cells or none are left without marks. */
    private static String markBoth(CardSheets x, Model m, int cell, double[] answers) {
        int mark = oneOf(0, 0, 0, 1, 2, 3);
        boolean is = pick(20) != 0;
        answers[0] = x.mark(cell, mark, is);
        answers[1] = m.mark(cell, mark, is);
        return "mark(" + cell + ", " + mark + ", " + is + ")";
    }

    private static String callBoth(CardSheets x, Model m, int style, double[] answers) {
        if (pick(2) == 0) {
            return tellBoth(x, m, answers);
        }
        int kind = style == 1 && pick(3) == 0 ? 5 + pick(5) : style == 2 && pick(3) == 0 ? 13 : pick(20);
        int a;
        int b;
        boolean is;
        switch (kind) {
            case 0:
                a = around(0, 23);
                b = around(0, 23);
                answers[0] = x.swap(a, b);
                answers[1] = m.swap(a, b);
                return "swap(" + a + ", " + b + ")";
            case 1: case 2:
                a = around(0, 23);
                b = around(0, 3);
                is = pick(4) != 0;
                answers[0] = x.mark(a, b, is);
                answers[1] = m.mark(a, b, is);
                return "mark(" + a + ", " + b + ", " + is + ")";
            case 3:
                a = around(0, 23);
                b = pick(3) == 0 ? around(-9, 9) : around(-4, 4);
                answers[0] = x.lean(a, b);
                answers[1] = m.lean(a, b);
                return "lean(" + a + ", " + b + ")";
            case 4:
                a = style == 3 ? oneOf(0, 0, 1, 2) : around(0, 3);
                b = oneOf(around(1, 99), around(0, 9), around(0, 24), 1 + pick(3));
                answers[0] = x.set(a, b);
                answers[1] = m.set(a, b);
                return "set(" + a + ", " + b + ")";
            case 5: case 6:
                is = pick(2) == 0;
                answers[0] = x.print(is);
                answers[1] = m.print(is);
                return "print(" + is + ")";
            case 7: case 8:
                a = around(0, 3);
                answers[0] = x.cutSheet(a);
                answers[1] = m.cutSheet(a);
                return "cutSheet(" + a + ")";
            case 9:
                return handlePack(x, m, answers);
            case 10:
                answers[0] = x.sell();
                answers[1] = m.sell();
                return "sell()";
            case 11:
                if (pick(3) != 0) {
                    return tellBoth(x, m, answers);
                }
                answers[0] = x.pulp();
                answers[1] = m.pulp();
                return "pulp()";
            case 12: case 13: case 14:
                char sign = nextSign(m);
                answers[0] = x.type(sign);
                answers[1] = m.type(sign);
                return "type(" + sign + ")";
            case 15:
                if (pick(4) != 0) {
                    return tellBoth(x, m, answers);
                }
                answers[0] = x.clearText();
                answers[1] = m.clearText();
                return "clearText()";
            case 16:
                answers[0] = x.changeAll();
                answers[1] = m.changeAll();
                return "changeAll()";
            case 17:
                answers[0] = x.undo();
                answers[1] = m.undo();
                return "undo()";
            case 18:
                answers[0] = x.keep();
                answers[1] = m.keep();
                return "keep()";
            default:
                if (pick(3) != 0) {
                    return handlePack(x, m, answers);
                }
                answers[0] = x.restore();
                answers[1] = m.restore();
                return "restore()";
        }
    }

    private static String handlePack(CardSheets x, Model m, double[] answers) {
        int left = m.now.pack == null ? 3 : m.now.pack.size();
        int a = around(1, Math.max(2, left - 1));
        switch (pick(4)) {
            case 0:
                a = pick(2) == 0 ? around(1, 4) : around(1, Math.max(1, left));
                answers[0] = x.deal(a);
                answers[1] = m.deal(a);
                return "deal(" + a + ")";
            case 1:
                answers[0] = x.cutPack(a);
                answers[1] = m.cutPack(a);
                return "cutPack(" + a + ")";
            default:
                answers[0] = x.shuffle(a);
                answers[1] = m.shuffle(a);
                return "shuffle(" + a + ")";
        }
    }

    /** Mostly one that is allowed, so that long texts without a fault come, too. */
    private static char nextSign(Model m) {
        String signs = "smul0123456789=/;-";
        if (pick(25) != 0) {
            StringBuilder allowed = new StringBuilder();
            for (int k = 0; k < signs.length(); k++) {
                if (Model.canBegin(m.text + signs.charAt(k))) {
                    allowed.append(signs.charAt(k));
                }
            }
            if (allowed.length() > 0) {
                return allowed.charAt(pick(allowed.length()));
            }
        }
        return pick(2) == 0 ? signs.charAt(pick(signs.length())) : (char) oneOf(0, 32, 58, 255, 256, 65535, 1585);
    }

    private static String tellBoth(CardSheets x, Model m, double[] answers) {
        int a;
        int b;
        int c;
        switch (pick(13)) {
            case 0:
                a = around(0, 23);
                b = around(0, 1);
                answers[0] = x.block(a, b);
                answers[1] = m.block(a, b);
                return "block(" + a + ", " + b + ")";
            case 1:
                a = around(0, 23);
                b = around(0, 3);
                answers[0] = x.cardOf(a, b);
                answers[1] = m.cardOf(a, b);
                return "cardOf(" + a + ", " + b + ")";
            case 2:
                a = around(0, pick(2) == 0 ? 5 : 1);
                b = around(0, 23);
                c = around(0, 1);
                answers[0] = x.sheet(a, b, c);
                answers[1] = m.sheet(a, b, c);
                return "sheet(" + a + ", " + b + ", " + c + ")";
            case 3: case 4: case 5:
                a = around(0, m.now.pack == null || m.now.pack.isEmpty() ? 2 : m.now.pack.size() - 1);
                b = around(0, 4);
                answers[0] = x.pack(a, b);
                answers[1] = m.pack(a, b);
                return "pack(" + a + ", " + b + ")";
            case 6: case 7:
                a = around(0, 17);
                answers[0] = x.count(a);
                answers[1] = m.count(a);
                return "count(" + a + ")";
            case 8:
                answers[0] = x.why();
                answers[1] = m.why();
                return "why()";
            case 9:
                answers[0] = x.chances();
                answers[1] = m.chances();
                return "chances()";
            case 10:
                boolean turned = pick(2) == 0;
                answers[0] = x.ifPrinted(turned);
                answers[1] = m.ifPrinted(turned);
                return "ifPrinted(" + turned + ")";
            case 11:
                if (pick(2) == 0) {
                    answers[0] = x.fault();
                    answers[1] = m.fault();
                    return "fault()";
                }
                a = around(0, 1);
                answers[0] = x.worstFlaw(a);
                answers[1] = m.worstFlaw(a);
                return "worstFlaw(" + a + ")";
            default:
                if (pick(2) == 0) {
                    answers[0] = x.bestWay();
                    answers[1] = m.bestWay();
                    return "bestWay()";
                }
                a = around(1, m.now.pack == null ? 3 : Math.max(1, m.now.pack.size() - 1));
                answers[0] = x.backIn(a);
                answers[1] = m.backIn(a);
                return "backIn(" + a + ")";
        }
    }

    /** A card that is printed on a sheet. */
    private record Printed(int card, int lean, List<Boolean> marks) {
    }

    private static final class ModelState {
        List<Integer> block = new ArrayList<>();
        List<Integer> leans = new ArrayList<>();
        List<List<Boolean>> backs = new ArrayList<>();
        List<Integer> settings = new ArrayList<>(List.of(10, 3, 4, 12));
        List<List<Printed>> pile = new ArrayList<>();
        List<Printed> pack = null;
        List<Printed> dealt = new ArrayList<>();
        int printed;
        int sold;
        int pulped;
        int coins;

        ModelState() {
            for (int k = 0; k < 24; k++) {
                block.add(k);
                leans.add(0);
                backs.add(List.of(false, false, false, false));
            }
        }

        ModelState copy() {
            ModelState copy = new ModelState();
            copy.block = new ArrayList<>(block);
            copy.leans = new ArrayList<>(leans);
            copy.backs = new ArrayList<>(backs);
            copy.settings = new ArrayList<>(settings);
            copy.pile = new ArrayList<>(pile);
            copy.pack = pack == null ? null : new ArrayList<>(pack);
            copy.dealt = new ArrayList<>(dealt);
            copy.printed = printed;
            copy.sold = sold;
            copy.pulped = pulped;
            copy.coins = coins;
            return copy;
        }
    }

    private static final class Model {
        private static final String CELL = "(0|1[0-9]?|2[0-3]?|[3-9])";
        private static final String CHANGE = "(s" + CELL + "/" + CELL + "|m" + CELL + "=[0-3]|u" + CELL
            + "=[0-3]|l" + CELL + "=([0-9]|-[1-9]))";
        private static final Pattern TEXT = Pattern.compile(CHANGE + "(;" + CHANGE + ")*");

        ModelState now = new ModelState();
        ModelState snapshot = null;
        final List<ModelState> history = new ArrayList<>();
        String text = "";

        static boolean canBegin(String text) {
            Matcher matcher = TEXT.matcher(text);
            return matcher.matches() || matcher.hitEnd();
        }

        private void act() {
            history.add(now.copy());
            if (history.size() > 4) {
                history.remove(0);
            }
        }

        private static boolean in(int value, int least, int most) {
            return value >= least && value <= most;
        }

        private static boolean court(int card) {
            return List.of(3, 4, 5).contains(card % 6);
        }

        private static int asSet(List<Boolean> marks) {
            return (marks.get(0) ? 1 : 0) + (marks.get(1) ? 2 : 0) + (marks.get(2) ? 4 : 0) + (marks.get(3) ? 8 : 0);
        }

        private void putMark(int cell, int mark, boolean is) {
            List<Boolean> marks = new ArrayList<>(now.backs.get(cell));
            marks.set(mark, is);
            now.backs.set(cell, marks);
        }

        private void exchange(int cell, int other) {
            int card = now.block.get(cell);
            now.block.set(cell, now.block.get(other));
            now.block.set(other, card);
        }

        int swap(int cell, int other) {
            if (!in(cell, 0, 23) || !in(other, 0, 23)) {
                return -1;
            }
            if (cell == other) {
                return -5;
            }
            act();
            exchange(cell, other);
            return now.block.get(cell);
        }

        int mark(int cell, int mark, boolean is) {
            if (!in(cell, 0, 23) || !in(mark, 0, 3)) {
                return -1;
            }
            if (now.backs.get(cell).get(mark) == is) {
                return -5;
            }
            act();
            putMark(cell, mark, is);
            return asSet(now.backs.get(cell));
        }

        int lean(int card, int lean) {
            if (!in(card, 0, 23)) {
                return -1;
            }
            if (!in(lean, -9, 9)) {
                return -2;
            }
            if (!court(card)) {
                return -4;
            }
            int before = now.leans.get(card);
            if (before == lean) {
                return -5;
            }
            act();
            now.leans.set(card, lean);
            return before + 100;
        }

        int fault() {
            for (int length = 1; length <= text.length(); length++) {
                if (!canBegin(text.substring(0, length))) {
                    return length - 1;
                }
            }
            return TEXT.matcher(text).matches() ? -5 : text.length();
        }

        int changeAll() {
            if (fault() != -5) {
                return -100 - fault();
            }
            String[] changes = text.split(";");
            for (String change : changes) {
                if (change.startsWith("l") && !court(Integer.parseInt(change.substring(1, change.indexOf('='))))) {
                    return -4;
                }
            }
            act();
            for (String change : changes) {
                String[] parts = change.substring(1).split("[/=]");
                int first = Integer.parseInt(parts[0]);
                int second = Integer.parseInt(parts[1]);
                switch (change.charAt(0)) {
                    case 's' -> exchange(first, second);
                    case 'm' -> putMark(first, second, true);
                    case 'u' -> putMark(first, second, false);
                    default -> now.leans.set(first, second);
                }
            }
            return changes.length;
        }

        int set(int which, int value) {
            int[][] ranges = {{1, 99}, {0, 9}, {0, 24}, {1, 99}};
            if (!in(which, 0, 3) || !in(value, ranges[which][0], ranges[which][1])) {
                return -2;
            }
            int before = now.settings.get(which);
            if (before == value) {
                return -5;
            }
            act();
            now.settings.set(which, value);
            return before;
        }

        private List<Printed> asPrinted(boolean turned) {
            List<Printed> sheet = new ArrayList<>();
            for (int cell = 0; cell < 24; cell++) {
                int card = now.block.get(cell);
                sheet.add(new Printed(card, now.leans.get(card), now.backs.get(turned ? 23 - cell : cell)));
            }
            return sheet;
        }

        int print(boolean turned) {
            if (now.pile.size() == 6) {
                return -3;
            }
            act();
            now.pile.add(0, asPrinted(turned));
            now.printed++;
            if (now.printed % now.settings.get(0) == 0) {
                putMark(now.printed % 24, now.printed / now.settings.get(0) % 4, true);
            }
            return now.pile.size();
        }

        private static List<Printed> cut(List<Printed> sheet, int way) {
            List<List<Printed>> strips = new ArrayList<>();
            int strip = way % 2 == 0 ? 4 : 6;
            for (int k = 0; k < strip; k++) {
                strips.add(new ArrayList<>());
            }
            for (int row = 0; row < 4; row++) {
                for (int column = 0; column < 6; column++) {
                    int number = way % 2 == 0 ? row : column;
                    List<Printed> cards = strips.get(number);
                    cards.add(way >= 2 && number % 2 == 1 ? 0 : cards.size(), sheet.get(6 * row + column));
                }
            }
            List<Printed> all = new ArrayList<>();
            strips.forEach(all::addAll);
            return all;
        }

        int cutSheet(int way) {
            if (!in(way, 0, 3)) {
                return -2;
            }
            if (now.pack != null || now.pile.isEmpty()) {
                return -4;
            }
            act();
            now.pack = cut(now.pile.remove(0), way);
            now.dealt = new ArrayList<>();
            return now.pile.size();
        }

        int cutPack(int top) {
            if (now.pack == null) {
                return -4;
            }
            if (!in(top, 1, now.pack.size() - 1)) {
                return -2;
            }
            act();
            for (int k = 0; k < top; k++) {
                now.pack.add(now.pack.remove(0));
            }
            return now.pack.get(0).card();
        }

        private static <T> List<T> shuffled(List<T> cards, int top) {
            List<T> first = new ArrayList<>(cards.subList(0, top));
            List<T> second = new ArrayList<>(cards.subList(top, cards.size()));
            List<T> all = new ArrayList<>();
            while (!first.isEmpty() && !second.isEmpty()) {
                all.add(first.remove(0));
                all.add(second.remove(0));
            }
            all.addAll(first);
            all.addAll(second);
            return all;
        }

        int shuffle(int top) {
            if (now.pack == null) {
                return -4;
            }
            if (!in(top, 1, now.pack.size() - 1)) {
                return -2;
            }
            act();
            List<Printed> before = now.pack;
            now.pack = shuffled(before, top);
            int moved = 0;
            for (int place = 0; place < before.size(); place++) {
                moved += before.get(place).card() == now.pack.get(place).card() ? 0 : 1;
            }
            return moved;
        }

        int deal(int cards) {
            if (now.pack == null) {
                return -4;
            }
            if (!in(cards, 1, now.pack.size())) {
                return -2;
            }
            act();
            for (int k = 0; k < cards; k++) {
                now.dealt.add(now.pack.remove(0));
            }
            return now.pack.size();
        }

        int sell() {
            int reason = why();
            if (reason != 0) {
                return reason == -4 ? -4 : -10 - reason;
            }
            act();
            now.pack = null;
            now.sold++;
            now.coins += now.settings.get(3);
            return now.settings.get(3);
        }

        int pulp() {
            if (now.pack == null) {
                return -4;
            }
            act();
            int left = now.pack.size();
            now.pack = null;
            now.dealt = new ArrayList<>();
            now.pulped++;
            return left;
        }

        int type(char sign) {
            if (text.length() == 60) {
                return -3;
            }
            text += sign;
            return text.length();
        }

        int clearText() {
            int before = text.length();
            text = "";
            return before;
        }

        int undo() {
            if (history.isEmpty()) {
                return -5;
            }
            now = history.remove(history.size() - 1);
            return history.size();
        }

        int keep() {
            snapshot = now.copy();
            return now.printed;
        }

        int restore() {
            if (snapshot == null) {
                return -5;
            }
            act();
            now = snapshot.copy();
            return now.printed;
        }

        int block(int cell, int what) {
            if (!in(cell, 0, 23)) {
                return -1;
            }
            return what == 0 ? now.block.get(cell) : what == 1 ? asSet(now.backs.get(cell)) : -2;
        }

        int cardOf(int card, int what) {
            if (!in(card, 0, 23)) {
                return -1;
            }
            if (what == 0 || what == 1) {
                return what == 0 ? now.block.indexOf(card) : now.leans.get(card) + 100;
            }
            if (!in(what, 2, 3)) {
                return -2;
            }
            if (now.pack == null) {
                return -5;
            }
            for (int place = 0; place < now.pack.size(); place++) {
                if (now.pack.get(place).card() == card) {
                    return what == 2 ? place : asSet(now.pack.get(place).marks());
                }
            }
            for (Printed gone : now.dealt) {
                if (gone.card() == card && what == 3) {
                    return asSet(gone.marks());
                }
            }
            return -5;
        }

        int sheet(int sheet, int cell, int what) {
            if (!in(sheet, 0, now.pile.size() - 1) || !in(cell, 0, 23)) {
                return -1;
            }
            Printed printed = now.pile.get(sheet).get(cell);
            return what == 0 ? printed.card() : what == 1 ? asSet(printed.marks()) : -2;
        }

        private static List<Integer> canBe(List<Printed> pack, int place) {
            List<Integer> cards = new ArrayList<>();
            for (Printed card : pack) {
                if (card.marks().equals(pack.get(place).marks())) {
                    cards.add(card.card());
                }
            }
            cards.sort(null);
            return cards;
        }

        private static int known(List<Printed> pack) {
            int known = 0;
            for (int place = 0; place < pack.size(); place++) {
                known += canBe(pack, place).size() == 1 ? 1 : 0;
            }
            return known;
        }

        private int right() {
            int right = 0;
            for (int place = 0; place < now.pack.size(); place++) {
                right += canBe(now.pack, place).get(0) == now.pack.get(place).card() ? 1 : 0;
            }
            return right;
        }

        int pack(int place, int what) {
            if (now.pack == null || !in(place, 0, now.pack.size() - 1)) {
                return -1;
            }
            if (!in(what, 0, 4)) {
                return -2;
            }
            Printed printed = now.pack.get(place);
            List<Integer> cards = canBe(now.pack, place);
            return List.of(printed.card(), asSet(printed.marks()), cards.size(), cards.get(0),
                cards.size() == 1 ? 1 : 0).get(what);
        }

        int count(int what) {
            if (!in(what, 0, 17)) {
                return -2;
            }
            boolean is = now.pack != null;
            int marks = 0;
            int leaning = 0;
            for (int k = 0; k < 24; k++) {
                for (int mark = 0; mark < 4; mark++) {
                    marks += now.backs.get(k).get(mark) ? 1 : 0;
                }
                leaning += Math.abs(now.leans.get(k)) > now.settings.get(1) ? 1 : 0;
            }
            int[] counts = {now.pile.size(), now.printed, is ? 1 : 0, is ? now.pack.size() : 0,
                is ? now.dealt.size() : 0, is ? known(now.pack) : 0, is ? right() : 0, now.sold, now.pulped,
                now.coins, marks, leaning, history.size(), text.length(), now.settings.get(0),
                now.settings.get(1), now.settings.get(2), now.settings.get(3)};
            return counts[what];
        }

        int why() {
            if (now.pack == null) {
                return -4;
            }
            if (!now.dealt.isEmpty()) {
                return 1;
            }
            for (Printed card : now.pack) {
                if (card.lean() > now.settings.get(1) || -card.lean() > now.settings.get(1)) {
                    return 2;
                }
            }
            return known(now.pack) > now.settings.get(2) ? 3 : 0;
        }

        float chances() {
            if (now.pack == null) {
                return -1.0f;
            }
            float sum = 0.0f;
            for (int place = 0; place < now.pack.size(); place++) {
                sum = sum + 1.0f / (float) canBe(now.pack, place).size();
            }
            return sum;
        }

        int ifPrinted(boolean turned) {
            return known(asPrinted(turned));
        }

        int worstFlaw(int what) {
            if (!in(what, 0, 1)) {
                return -2;
            }
            int best = -1;
            int fewest = 25;
            ModelState real = now;
            for (int cell = 0; cell < 24; cell++) {
                now = real.copy();
                now.backs.set(cell, List.of(false, false, false, false));
                int known = known(asPrinted(false));
                if (known < fewest) {
                    fewest = known;
                    best = cell;
                }
            }
            now = real;
            return what == 0 ? best : fewest;
        }

        int bestWay() {
            if (now.pile.isEmpty()) {
                return -4;
            }
            int best = -1;
            int fewest = 25;
            for (int way = 0; way < 4; way++) {
                List<Printed> cards = cut(now.pile.get(0), way);
                int home = 0;
                for (int place = 0; place < 24; place++) {
                    home += cards.get(place).card() == place ? 1 : 0;
                }
                if (home < fewest) {
                    fewest = home;
                    best = way;
                }
            }
            return best;
        }

        int backIn(int top) {
            if (now.pack == null) {
                return -4;
            }
            if (!in(top, 1, now.pack.size() - 1)) {
                return -2;
            }
            List<Printed> cards = now.pack;
            for (int times = 1; times <= 500; times++) {
                cards = shuffled(cards, top);
                if (cards.equals(now.pack)) {
                    return times;
                }
            }
            return -5;
        }
    }
}
