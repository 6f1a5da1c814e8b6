import java.util.function.IntSupplier;

/** What the tests share: they count what is wrong, and end with exit code 1 if anything was. */
abstract class Checks {
    static final int UNKNOWN = -1;
    static final int BAD_VALUE = -2;
    static final int FULL = -3;
    static final int NOT_POSSIBLE = -4;
    static final int NONE = -5;
    static final int LOW = Integer.MIN_VALUE;
    static final int HIGH = Integer.MAX_VALUE;
    static final int CELLS = 24;
    static final int STATES = 4;

    private static String topic = "";
    private static int topics = 0;
    private static int checks = 0;
    private static int wrong = 0;

    /** A test of its own: a promise, or a sentence of the document. */
    static void says(String sentence, Runnable test) {
        topic = sentence;
        topics++;
        int before = checks;
        test.run();
        if (checks == before) {
            fail("nothing is tested");
        }
    }

    static void finish(String what) {
        System.out.println(topics + " " + what + ", " + checks + " checks, " + wrong + " wrong");
        if (wrong != 0) {
            System.exit(1);
        }
    }

    private static void fail(String what) {
        wrong++;
        System.out.println(topic + ": " + what);
    }

    static void due(String call, double got, double want) {
        checks++;
        if (got != want) {
            fail(call + " answered " + got + ", due is " + want);
        }
    }

    static void same(String what, String got, String want) {
        checks++;
        if (!got.equals(want)) {
            fail(what + " is not the same");
        }
    }

    /** A call that changes nothing and records nothing: one that is refused, or one that only tells. */
    static void stays(Shop x, String call, IntSupplier act, int want) {
        String before = x.told();
        due(call, act.getAsInt(), want);
        same(call + ": what is told then", x.told(), before);
    }

    /** An act: the state that was before it is the latest of the history, behind it those that were. */
    static void acts(Shop x, String call, IntSupplier act, int want) {
        String[] before = new String[STATES];
        for (int undos = 0; undos < STATES; undos++) {
            before[undos] = x.toldBack(undos);
        }
        int states = x.count(12);
        int length = x.count(13);
        int fault = x.fault();
        String snapshot = x.toldOfSnapshot();
        due(call, act.getAsInt(), want);
        due(call + ": the states", x.count(12), Math.min(states + 1, STATES));
        for (int undos = 0; undos < STATES; undos++) {
            same(call + ": the state " + undos + " before", x.toldBack(undos + 1), before[undos]);
        }
        due(call + ": the length of the text", x.count(13), length);
        due(call + ": the fault", x.fault(), fault);
        same(call + ": the snapshot", x.toldOfSnapshot(), snapshot);
    }

    /** The text's changes are done; the text is empty then. */
    static void change(Shop x, String text) {
        x.write(text);
        due("changeAll of " + text, x.changeAll(), text.split(";").length);
        x.clearText();
    }

    static Shop withPack(int way) {
        Shop x = new Shop();
        x.print(false);
        x.cutSheet(way);
        return x;
    }

    /** A pack of so many cards, the highest ones, in their order. */
    static Shop withCards(int left) {
        Shop x = withPack(0);
        if (left < CELLS) {
            x.deal(CELLS - left);
        }
        return x;
    }

    static void order(Shop x, int... cards) {
        due("cards of the pack", x.count(3), cards.length);
        for (int place = 0; place < cards.length; place++) {
            due("card at the place " + place, x.pack(place, 0), cards[place]);
        }
    }

    /** The order of the pack after a shuffle, told as the document tells it: parts that are used up. */
    static int[] shuffled(int[] cards, int top) {
        int[] next = new int[cards.length];
        int first = 0;
        int second = top;
        for (int place = 0; place < cards.length; place++) {
            boolean fromFirst = second == cards.length || first < top && place % 2 == 0;
            next[place] = fromFirst ? cards[first++] : cards[second++];
        }
        return next;
    }

    /** The same of a cut: the top cards come behind the others. */
    static int[] cut(int[] cards, int top) {
        int[] next = new int[cards.length];
        System.arraycopy(cards, top, next, 0, cards.length - top);
        System.arraycopy(cards, 0, next, cards.length - top, top);
        return next;
    }

    /** The cards from one on, in their order. */
    static int[] from(int card) {
        int[] cards = new int[CELLS - card];
        for (int k = 0; k < cards.length; k++) {
            cards[k] = card + k;
        }
        return cards;
    }

    /** How many shuffles bring the order back; NONE if more than 500. */
    static int byShuffling(int left, int top) {
        int[] first = from(CELLS - left);
        int[] now = first;
        for (int times = 1; times <= 500; times++) {
            now = shuffled(now, top);
            if (java.util.Arrays.equals(now, first)) {
                return times;
            }
        }
        return NONE;
    }
}
