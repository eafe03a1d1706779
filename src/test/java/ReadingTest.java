/** Promises 14 to 22: why a backup is lost, fetching, what lies ahead, gain, odds, windows, telling. */
public final class ReadingTest {
    private static final String POINTS = "least 1;border byte=46;hook all;";

    public static void main(String[] args) {
        whyLost();
        fetching();
        fetchingByPlans();
        likeOnesByPlanOne();
        laterDays();
        laterAtTheEnd();
        expiring();
        gains();
        gainOfNought();
        oddsOfBackups();
        meeting();
        windowsByMet();
        telling();
        Due.ends("ReadingTest");
    }

    private static void whyLost() {
        Tried t = Tried.with("box 60;segs 8;most 60;" + POINTS);
        t.save("a.b." + "x".repeat(58) + ".c.b.");
        Due.is("it can be read", t.x.why(0, 0), -1);
        t.x.spoil(0, 3);
        Due.is("its piece", t.x.why(0, 0), 3);
        Due.is("its cause", t.x.why(0, 1), 2);
        Due.is("its box", t.x.why(0, 2), 2);
        t.x.smash(2);
        Due.is("broken is ahead of spoiled", t.x.why(0, 1), 1);
        t.x.smash(1);
        Due.is("the first piece", t.x.why(0, 0), 2);
        Due.is("the first cause", t.x.why(0, 1), 1);
        Due.is("the first box", t.x.why(0, 2), 1);
        t.x.spoil(0, 1);
        Due.is("ahead of that", t.x.why(0, 0), 1);
        Due.is("by its own cause", t.x.why(0, 1), 2);
        Due.is("in its own box", t.x.why(0, 2), 0);
        Due.is("what 3", t.x.why(0, 3), -1);
        Due.is("what -1", t.x.why(0, -1), -1);
        Due.is("no backup", t.x.why(1, 0), -1);
        Due.is("below 0", t.x.why(-1, 0), -1);
    }

    /** The boxes 0, 1, 2 .. with a piece of A, B, C .. in each, and no backup. */
    private static Tried boxes(int desk) {
        Tried t = Tried.with("box 60;least 1;most 60;segs 8;champs 4;desk " + desk + ";border byte=46;hook all;");
        for (char c = 'A'; c < 'I'; c++) {
            t.save(piece(c));
        }
        for (char c = 'A'; c < 'I'; c++) {
            t.x.forget(c - 'A');
        }
        return t;
    }

    private static String piece(char c) {
        return String.valueOf(c).repeat(45) + ".";
    }

    /** A backup whose pieces lie in the boxes that the order names: at most 8, so that files stay short. */
    private static int fetched(int desk, int plan, String order) {
        Tried t = boxes(desk);
        StringBuilder file = new StringBuilder();
        for (char c : order.toCharArray()) {
            file.append(piece(c));
        }
        int b = t.save(file.toString());
        for (int k = 0; k < order.length(); k++) {
            Due.is("box of piece " + k + " of " + order, t.x.piece(b, k, 2), order.charAt(k) - 'A');
        }
        return t.x.fetches(b, plan);
    }

    private static void fetching() {
        Tried t = Tried.with("box 60;" + POINTS);
        t.save("a.b.a.");
        Due.is("one box", t.x.fetches(0, 0), 1);
        t.x.smash(0);
        Due.is("broken or not", t.x.fetches(0, 0), 1);
        Due.is("plan 2", t.x.fetches(0, 2), -1);
        Due.is("plan -1", t.x.fetches(0, -1), -1);
        Due.is("no backup", t.x.fetches(1, 0), -1);
        Due.is("below 0", t.x.fetches(-1, 0), -1);
    }

    private static void fetchingByPlans() {
        Due.is("AABBA by 1", fetched(1, 0, "AABBA"), 3);
        Due.is("AABBA by 2", fetched(2, 0, "AABBA"), 2);
        Due.is("ABCABC, plan 0", fetched(2, 0, "ABCABC"), 6);
        Due.is("ABCABC, plan 1", fetched(2, 1, "ABCABC"), 4);
        Due.is("ABACAB, plan 0: A was used, B goes", fetched(2, 0, "ABACAB"), 4);
        Due.is("ABACAB, plan 1: B goes", fetched(2, 1, "ABACAB"), 4);
        Due.is("ABCBA, plan 0", fetched(2, 0, "ABCBA"), 4);
        Due.is("ABCBA, plan 1", fetched(2, 1, "ABCBA"), 4);
        Due.is("BACABAC, plan 1", fetched(2, 1, "BACABAC"), 5);
        Due.is("ABCDABCD, plan 1, desk 3", fetched(3, 1, "ABCDABCD"), 5);
        Due.is("ABCDABCD, plan 0, desk 3", fetched(3, 0, "ABCDABCD"), 8);
        Due.is("ABCDABCD, plan 0, desk 4", fetched(4, 0, "ABCDABCD"), 4);
        Due.is("desk without is 2", withoutDesk(), 6);
    }

    private static int withoutDesk() {
        Tried t = Tried.with("box 60;least 1;most 60;segs 8;champs 4;border byte=46;hook all;");
        StringBuilder s = new StringBuilder();
        for (char c : "ABCABC".toCharArray()) {
            s.append(piece(c));
        }
        t.save(s.toString());
        return t.x.fetches(0, 0);
    }

    /** Nothing is used again behind D: what is put away there cannot be told by the count, but no answer may differ. */
    private static void likeOnesByPlanOne() {
        Due.is("ABCD, plan 1", fetched(2, 1, "ABCD"), 4);
        Due.is("ABCDD, plan 1", fetched(2, 1, "ABCDD"), 4);
        Due.is("BACDC, plan 1: B or A goes, C stays", fetched(2, 1, "BACDC"), 4);
    }

    private static void laterDays() {
        Tried t = Tried.with("box 60;keep 3;champs 1;" + POINTS);
        t.save("a.bb.");
        t.x.days(1);
        t.save("a.ccc.");
        int[][] want = {{2, 3, 9}, {2, 3, 9}, {1, 2, 6}, {0, 0, 0}, {0, 0, 0}};
        for (int n = 0; n < want.length; n++) {
            for (int what = 0; what < 3; what++) {
                Due.is("later(" + n + ", " + what + ")", t.x.later(n, what), want[n][what]);
            }
        }
        Due.is("later(40, 0)", t.x.later(40, 0), 0);
        Due.is("later(41, 0)", t.x.later(41, 0), -1);
        Due.is("later(-1, 0)", t.x.later(-1, 0), -1);
        Due.is("later(0, 3)", t.x.later(0, 3), -1);
        Due.is("later(0, -1)", t.x.later(0, -1), -1);
        Due.is("later(most int, 0)", t.x.later(Integer.MAX_VALUE, 0), -1);
        Due.is("nothing has changed", t.x.has(1), 2);
        Due.is("nor the day", t.x.has(7), 1);
        Due.is("without a store", new PieceStore().later(0, 0), -1);
        t = Tried.with("box 60;" + POINTS);
        t.save("a.");
        Due.is("without keep none expires", t.x.later(40, 0), 1);
    }

    private static void laterAtTheEnd() {
        Tried t = Tried.with("box 60;keep 30;" + POINTS);
        for (int i = 0; i < 24; i++) {
            t.x.days(40);
        }
        t.x.days(19);
        Due.is("day 979", t.x.has(7), 979);
        t.save("a.");
        Due.is("to day 999", t.x.later(20, 0), 1);
        Due.is("not beyond", t.x.later(21, 0), -1);
        Due.is("it does not expire by then", t.x.expires(0), -1);
        t.x.days(20);
        Due.is("on day 999", t.x.later(0, 0), 1);
        Due.is("nothing ahead", t.x.later(1, 0), -1);
        Due.is("no odds", t.x.odds(0), -1);
        Due.is("no rows", t.x.odds(PieceStore.NONE), -1);
        Due.is("no day more", t.x.days(1), -1);
        Due.is("nor by the seed", t.x.chance(1), -1);
        t.x.undo();
        t.x.days(19);
        Due.is("odds on day 998", t.x.odds(PieceStore.NONE), 100);
    }

    private static void expiring() {
        Tried t = Tried.with("box 60;keep 40;" + POINTS);
        t.save("a.");
        Due.is("in 40", t.x.expires(0), 40);
        t.x.days(1);
        Due.is("in 39", t.x.expires(0), 39);
        Due.is("no backup", t.x.expires(1), -1);
        Due.is("below 0", t.x.expires(-1), -1);
        t = Tried.with("box 60;keep 41;" + POINTS);
        t.save("a.");
        Due.is("not in 40", t.x.expires(0), -1);
        t = Tried.with("box 60;keep 1;" + POINTS);
        t.save("a.");
        Due.is("at once", t.x.expires(0), 1);
        t = Tried.with("box 60;" + POINTS);
        t.save("a.");
        Due.is("never", t.x.expires(0), -1);
    }

    private static void gains() {
        Due.is("without a store", new PieceStore().gain(0), -1);
        Tried t = Tried.with("box 60;champs 0;least 1;most 30;border byte=46;");
        Due.is("of nothing", t.x.gain(0), 0);
        Due.is("of no boxes", t.x.gain(1), 0);
        t.save("a".repeat(30));
        t.save("b".repeat(20));
        t.save("c".repeat(30));
        t.save("d".repeat(20));
        Due.is("nothing yet", t.x.gain(0), 0);
        t.x.forget(0);
        t.x.forget(2);
        Due.is("two boxes of 30 and 20", t.x.has(4), 2);
        Due.is("bytes", t.x.gain(0), 60);
        Due.is("boxes", t.x.gain(1), 1);
        Due.is("what 2", t.x.gain(2), -1);
        Due.is("what -1", t.x.gain(-1), -1);
        Due.is("nothing has changed", t.x.has(5), 100);
        t.x.smash(0);
        Due.is("broken ones are not cleaned", t.x.gain(0), 30);
        Due.is("20 go behind 50", t.x.gain(1), 0);
        t.x.undo();
        t.x.clean();
        Due.is("as told", t.x.has(5), 40);
        Due.is("as told, boxes", t.x.has(4), 1);
    }

    /** Nothing is freed, and a box taken away comes again: the gain is nought, never below. */
    private static void gainOfNought() {
        Tried t = Tried.with("box 60;champs 0;least 1;most 60;border byte=46;clean live=60;");
        t.save("a".repeat(30) + "." + "b".repeat(28) + ".");
        t.save("c".repeat(30));
        Due.is("two boxes, one of them full", t.x.has(4), 2);
        Due.is("no bytes less", t.x.gain(0), 0);
        Due.is("no boxes less", t.x.gain(1), 0);
        Due.is("one is cleaned all the same", t.x.clean(), 1);
        Due.is("two boxes", t.x.has(4), 2);
        Due.is("31 in a new one", t.x.piece(0, 0, 2), 1);
        Due.is("29 behind it", t.x.piece(0, 1, 3), 1);
    }

    private static void oddsOfBackups() {
        Tried t = Tried.with("box 60;champs 0;least 1;most 60;rot 30;border byte=46;");
        Due.is("without boxes", t.x.odds(PieceStore.NONE), -1);
        t.save("a".repeat(59) + ".");
        t.save("b".repeat(59) + "." + "c".repeat(59) + ".");
        t.save("d".repeat(59) + ".");
        Due.is("all rows", t.x.odds(PieceStore.NONE), 400);
        Due.is("one box of four", t.x.odds(0), 370);
        Due.is("two of four", t.x.odds(1), 340);
        t.x.smash(0);
        Due.is("lost already", t.x.odds(0), 0);
        Due.is("another box is broken", t.x.odds(1), 340);
        t.x.spoil(1, 1);
        Due.is("spoiled", t.x.odds(1), 0);
        Due.is("no backup", t.x.odds(3), -1);
        Due.is("below NONE", t.x.odds(-2), -1);
        Due.is("nothing was drawn", t.x.has(11), 1);
        t = Tried.with("box 60;keep 1;rot 100;" + POINTS);
        t.save("a.");
        Due.is("ahead of what expires, rot 100", t.x.odds(0), 0);
        t = Tried.with("box 60;keep 1;" + POINTS);
        t.save("a.");
        Due.is("ahead of what expires, rot 0", t.x.odds(0), 100);
    }

    private static void meeting() {
        Tried t = new Tried();
        Due.is("without a store", t.meet(0, 0), -1);
        Due.is("the tape goes", t.x.end(1), false);
        t.store("box 60;");
        Due.is("no rows", t.x.meet(), -1);
        Due.is("half a row", t.meet(0), -1);
        Due.is("one and a half", t.meet(0, 0, 0), -1);
        Due.is("piece 40", t.meet(40, 0), -1);
        Due.is("length 61", t.meet(0, 61), -1);
        Due.is("a wrong row behind", t.meet(0, 1, 255, 1), -1);
        Due.is("nothing met", t.x.has(9), 0);
        Due.is("piece 39, length 60", t.meet(39, 60), 1);
        Due.is("16 rows", t.meet(new int[32]), 16);
        Due.is("has(9)", t.x.has(9), 16);
        Due.is("17 rows", t.meet(new int[34]), -1);
        Due.is("those met stay", t.x.has(9), 16);
        Due.is("refused", t.x.status(5), 8);
        Due.is("no act", t.x.has(10), 0);
        t.store("box 60;");
        Due.is("not of this store", t.x.has(9), 0);
    }

    /** With sum = byte by a window of 1 alone: a piece of "aab" ends behind 'b' at once. */
    private static void windowsByMet() {
        Tried t = Tried.with("box 60;window 9;least 1;border sum=98;");
        t.save("aabaa");
        Due.is("all without a meeting", t.x.windows(0), 131070);
        t.meet(0, 3);
        Due.is("the window of 1", t.x.windows(0), 2);
        t.meet(0, 5);
        Due.is("all the others", t.x.windows(0), 131070 - 2);
        t.meet(1, 0);
        Due.is("0: there is none", t.x.windows(0), 131070 - 2);
        t.meet(1, 2);
        Due.is("the second piece", t.x.windows(0), 2);
        t.meet(0, 3, 1, 2, 2, 0, 39, 0);
        Due.is("all rows at once", t.x.windows(0), 2);
        t.meet(0, 3, 1, 3);
        Due.is("none", t.x.windows(0), 0);
        Due.is("nothing tells", t.x.tells(0, 0), -1);
        Due.is("nor how many", t.x.tells(0, 1), -1);
        Due.is("no backup", t.x.windows(1), -1);
        Due.is("below 0", t.x.windows(-1), -1);
        t.meet(0, 61);
        Due.is("refused: those ahead count", t.x.windows(0), 0);
        t.x.undo();
        t.save("aabaa");
        t.meet(0, 3);
        Due.is("of this file", t.x.windows(0), 2);
        t.save("bbbbb");
        Due.is("of another", t.x.windows(1), 0);
        t = Tried.with("box 60;least 1;border sum=(98*31+97)%1009;");
        t.save("baaaa");
        t.meet(0, 2);
        Due.is("windows of 2 and more", t.x.windows(0), 131070 - 2);
    }

    private static void telling() {
        Tried t = Tried.with("box 60;least 1;border sum=98;");
        t.save("aabaa");
        Due.is("the first tells", t.x.tells(0, 0), 0);
        Due.is("15 are left at the most", t.x.tells(0, 1), 15);
        Due.is("what 2", t.x.tells(0, 2), -1);
        Due.is("what -1", t.x.tells(0, -1), -1);
        Due.is("no backup", t.x.tells(1, 0), -1);
        t.meet(0, 3);
        Due.is("one is left: the first", t.x.tells(0, 0), 0);
        Due.is("one", t.x.tells(0, 1), 1);
        t = Tried.with("box 60;least 1;border sum=97 or sum=99;");
        t.save("ab" + "c" + "zzzz");
        Due.is("a ends the first by every window, the second by 1 alone", t.x.tells(0, 0), 1);
        Due.is("at the most", t.x.tells(0, 1), 15);
    }
}
