import java.util.ArrayList;
import java.util.List;
import java.util.regex.Matcher;
import java.util.regex.Pattern;

/** Edges that the document names, each by the words that name it; a call that is refused is looked at for what it changes. */
final class Edges {
    static final int NONE = -1, BAD = -2, STATE = -3, FULL = -4, MUCH = -5, NOTHING = -11, PLACE = -12, KIND = -13, SIZE = -14;
    /** Where the words stand that belong to no promise. */
    static final int TERMS = 0;
    private static final int PROMISES = 44;
    private static final int LEAST = Integer.MIN_VALUE;
    private static final int MOST = Integer.MAX_VALUE;

    interface Maker {
        PairedLines make();
    }

    interface Call {
        long on(PairedLines x);
    }

    interface CallWith {
        long on(PairedLines x, int v);
    }

    private final Check check;
    /** Empty if the document isn't at hand: then the answers alone are looked at. */
    private final String[] sections;
    private final boolean[][] told;
    private int promise = TERMS;
    private String words = "";
    private int looks = 1;

    Edges(Check check, String document) {
        this.check = check;
        this.sections = document.isEmpty() ? new String[0] : cut(document);
        this.told = new boolean[sections.length][];
        for (int i = 0; i < sections.length; i++) {
            told[i] = new boolean[sections[i].length()];
        }
    }

    private static String[] cut(String document) {
        String[] sections = new String[PROMISES + 1];
        sections[TERMS] = plain(between(document, "## What it is", "## The public face").replaceAll("(?s)^.*?\n\n.*?\n\n", ""))
            + " " + plain(between(document, "## Terms", "Ahead of the calls"));
        for (int p = 1; p <= PROMISES; p++) {
            sections[p] = plain(between(document, "## Promise " + p + ":", "\n## ").replaceAll("(?s)^.*?`: ", ""));
        }
        return sections;
    }

    private static String between(String document, String head, String end) {
        int from = document.indexOf(head);
        int to = from < 0 ? -1 : document.indexOf(end, from + head.length());
        return from < 0 || to < 0 ? "" : document.substring(from + head.length(), to);
    }

    private static String plain(String text) {
        return text.replaceAll("```(text)?", " ").replaceAll("==== \\d", " ").replaceAll("\\s+", " ").trim();
    }

    /** What follows belongs to these words of a promise (or of the terms), up to the next ones. */
    void sentence(int ofPromise, String itsWords) {
        endSentence();
        promise = ofPromise;
        words = itsWords;
        looks = 0;
        if (sections.length == 0) {
            return;
        }
        int at = sections[promise].indexOf(words);
        check.holds("the document has, at " + promise + ": " + words, at >= 0);
        while (at >= 0) {
            for (int i = at; i < at + words.length(); i++) {
                told[promise][i] = true;
            }
            at = sections[promise].indexOf(words, at + 1);
        }
    }

    private void endSentence() {
        check.holds("a test of its own, at " + promise + ": " + words, looks > 0);
    }

    /** Whether each word of the document belongs to a sentence that has a test of its own. */
    void end() {
        endSentence();
        for (int p = 0; p < sections.length; p++) {
            check.holds("the document has a section " + p, !sections[p].isEmpty());
            Matcher m = Pattern.compile("[A-Za-z0-9]+").matcher(sections[p]);
            while (m.find()) {
                if (!told[p][m.start()]) {
                    check.holds("no test, at " + p + ", for .. " + sections[p].substring(m.start(), Math.min(sections[p].length(), m.start() + 60)), false);
                }
            }
        }
    }

    void due(String call, long got, long want) {
        looks++;
        check.due("(" + promise + ": " + words + ") " + call, got, want);
    }

    void holds(String what, boolean holds) {
        due(what, holds ? 1 : 0, 1);
    }

    void takes(String name, Maker maker, Call call, long want) {
        due(name, call.on(maker.make()), want);
    }

    /** The answer is due, and all that can be seen is as if the call had not been. */
    void refuses(String name, Maker maker, Call call, long want) {
        PairedLines x = maker.make();
        due(name, call.on(x), want);
        changesNothing(name, x, maker);
    }

    void changesNothing(String name, PairedLines x, Maker maker) {
        List<Long> now = seen(x);
        List<Long> before = seen(maker.make());
        int first = 0;
        while (first < now.size() && first < before.size() && now.get(first).equals(before.get(first))) {
            first++;
        }
        due(name + " changes nothing, but at " + first, now.equals(before) ? 1 : 0, 1);
    }

    /** The last values that are taken, and the first that are refused, on either side and far off. */
    void range(String name, Maker maker, CallWith call, int least, long atLeast, int most, long atMost, long fault) {
        takes(name + " by " + least, maker, x -> call.on(x, least), atLeast);
        takes(name + " by " + most, maker, x -> call.on(x, most), atMost);
        beyond(name, maker, call, least, most, fault);
    }

    void beyond(String name, Maker maker, CallWith call, int least, int most, long fault) {
        for (int v : new int[] {least - 1, most + 1, LEAST, MOST}) {
            refuses(name + " by " + v, maker, x -> call.on(x, v), fault);
        }
    }

    /** OUT of either side, which each call takes alike. */
    void out(String name, Maker maker, CallWith call, long atNone, long atAll, long fault) {
        range(name + " OUT", maker, call, 0, atNone, 4095, atAll, fault);
    }

    private static List<Long> seen(PairedLines x) {
        List<Long> seen = new ArrayList<>();
        seeNet(x, seen);
        for (int k = 0; k < x.count(3); k++) {
            for (int what = 0; what < 4; what++) {
                seen.add((long) x.node(k, what));
            }
        }
        for (int r = 0; r < 3; r++) {
            seeRack(x, r, seen);
        }
        for (int s = 0; s < 4; s++) {
            seeSheet(x, s, seen);
        }
        seen.add((long) x.back());
        seeNet(x, seen);
        return seen;
    }

    private static void seeNet(PairedLines x, List<Long> seen) {
        for (int what = 0; what < 4; what++) {
            seen.add((long) x.count(what));
        }
        for (int i = 0; i < x.count(1); i++) {
            for (int what = 0; what < 5; what++) {
                seen.add((long) x.told(i, what));
            }
        }
        for (int p = 0; p < x.count(0); p++) {
            seen.add((long) x.near(p, 0));
        }
        for (int k = 0; k < 7; k++) {
            seen.add(x.counts(0, k));
        }
    }

    /** What lies there, and then, by LINES that are laid, for which KIND it is. */
    private static void seeRack(PairedLines x, int r, List<Long> seen) {
        for (int i = 0; i < 21; i++) {
            seen.add((long) x.of(r, i));
        }
        for (int i = 0; i < Math.min(6, x.count(1)); i++) {
            seen.add((long) x.lay(r, 0, i));
        }
    }

    /** What stands there, and then, by a number that no int can be, of which sort it is. */
    private static void seeSheet(PairedLines x, int s, List<Long> seen) {
        for (int i = 0; i < 61; i++) {
            seen.add(x.read(s, i, 0));
        }
        seen.add((long) x.cell(s, 0, 9007199254740993L));
        seen.add(x.read(s, 0, 0));
    }

    // ---- nets that are used often

    /** A way of seven POINTS, LINE i of KIND i; TIDE 4, by which WEIGHTS are 8, 14, 3, 18, 1, 7; and some of all else that there is. */
    static PairedLines rich() {
        PairedLines x = new PairedLines();
        x.points(7);
        for (int kind = 0; kind < 6; kind++) {
            x.line(kind, 7, kind, kind + 1);
        }
        x.tide(3);
        x.image();
        x.set(0, 8);
        x.tide(4);
        x.tree(2, 0);
        x.rack(0, 0, 3);
        x.lay(0, 1, 3);
        x.rack(1, 2, 2);
        x.sheet(0, 0, 5);
        x.cell(0, 0, 11);
        x.cell(0, 4, -12);
        x.sheet(1, 1, 3);
        x.cell(1, 1, 1L << 40);
        x.sheet(2, 2, 2);
        x.cell(2, 1, 5);
        x.parts(2, 1, 3);
        return x;
    }

    /** Twelve POINTS with as many LINES as there may be, by POINTS from 0 and 1 on; LINE 39 is that of 4 and 6. */
    static PairedLines forty() {
        return Check.whole(12, 0, 1);
    }

    /** LINES that do not meet, of these WEIGHTS (those above 9999 are even). */
    static PairedLines apart(int... weights) {
        PairedLines x = new PairedLines();
        x.points(2 * weights.length);
        layApart(x, weights);
        return x;
    }

    static void layApart(PairedLines x, int... weights) {
        for (int i = 0; i < weights.length; i++) {
            boolean twin = weights[i] > 9999;
            x.line(twin ? 1 : 0, twin ? weights[i] / 2 : weights[i], 2 * i, 2 * i + 1);
        }
    }

    /** Rounds of four POINTS each, four WEIGHTS a round: its two LINES of a PAIRING are the first and third, or the second and fourth. */
    static PairedLines rounds(int... weights) {
        PairedLines x = new PairedLines();
        x.points(weights.length);
        for (int i = 0; i < weights.length; i++) {
            x.line(0, weights[i], i, i % 4 == 3 ? i - 3 : i + 1);
        }
        return x;
    }

    /** One round of all POINTS, LINE i between POINT i and the next one. */
    static PairedLines ring(int... weights) {
        PairedLines x = new PairedLines();
        x.points(weights.length);
        for (int i = 0; i < weights.length; i++) {
            x.line(0, weights[i], i, (i + 1) % weights.length);
        }
        return x;
    }

    /** Its COUNT 6 is 2 ^ 63 - 1: (805 * 807 + 22) * (805 * 806 + 329) * (4676 * 4677 + 637). */
    static PairedLines greatestCount() {
        return rounds(805, 22, 807, 1, 805, 329, 806, 1, 4676, 637, 4677, 1);
    }

    /** Ten POINTS; its COUNT 5 is 2 ^ 63 - 1: (9083 * 9083 + 5550) * (5590 * 5590 + 4269) * 3577. */
    static PairedLines greatestOddCount() {
        PairedLines x = new PairedLines();
        x.points(10);
        int[] weights = {9083, 5550, 9083, 1, 5590, 4269, 5590, 1};
        for (int i = 0; i < 8; i++) {
            x.line(0, weights[i], i, i % 4 == 3 ? i - 3 : i + 1);
        }
        x.line(0, 3577, 8, 9);
        return x;
    }

    /** Its COUNT 6 is 2 ^ 63, the least that is MUCH. */
    static PairedLines leastMuch() {
        return apart(1024, 1024, 1024, 2048, 2048, 2048);
    }

    /** As leastMuch(), with one WEIGHT less by one. */
    static PairedLines justNotMuch() {
        return apart(1024, 1024, 1024, 2048, 2048, 2047);
    }
}
