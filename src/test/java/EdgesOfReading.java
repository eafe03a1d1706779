import java.util.ArrayList;
import java.util.List;
import java.util.Map;
import java.util.TreeMap;

/** Terms II, READING and FETCHING, Terms III, and the promises 14 to 22: why, fetches, what lies ahead, gain, odds, windows, telling. */
final class EdgesOfReading {
    private static final int MOST_INT = Integer.MAX_VALUE;
    private static final int LEAST_INT = Integer.MIN_VALUE;
    private static final int[] NO_BACKUPS = {1, 3, 11, 12, -1, -2, MOST_INT, LEAST_INT};
    private static final String POINTS = "least 1;most 60;border byte=46;hook all;";
    private static final int ALL_WINDOWS = 131070;
    private static final int WINDOWS = 16;
    private static final int TOLD = 40;

    private EdgesOfReading() {
    }

    static void all() {
        why();
        fetches();
        ahead();
        expires();
        gain();
        odds();
        meet();
        windows();
        tells();
    }

    // ---- reading

    /** Backup 0: a. and b. in box 0, 59 bytes in box 1, c. and b. again; box 2 has c. */
    private static Tried threeBoxes() {
        Tried t = Tried.with("box 60;segs 8;" + POINTS);
        t.save("a.b." + "x".repeat(58) + ".c.b.");
        return t;
    }

    private static void lostBy(String what, Tried t, int piece, int cause, int box) {
        Due.is(what + ": piece", t.x.why(0, 0), piece);
        Due.is(what + ": cause", t.x.why(0, 1), cause);
        Due.is(what + ": box", t.x.why(0, 2), box);
    }

    private static void why() {
        Edge.of(14, "it is LOST at the first one whose BOX is BROKEN (cause 1), or that is SPOILED (cause 2, if the BOX is not BROKEN).", () -> {
            Tried t = threeBoxes();
            lostBy("nothing", t, PieceStore.NONE, PieceStore.NONE, PieceStore.NONE);
            t.x.spoil(0, 3);
            lostBy("c. spoiled", t, 3, 2, 2);
            t.x.smash(2);
            lostBy("its box broken, too", t, 3, 1, 2);
            t.x.smash(1);
            lostBy("a box ahead of it broken", t, 2, 1, 1);
            t.x.spoil(0, 2);
            lostBy("a spoiled one in a broken box", t, 2, 1, 1);
            t.x.spoil(0, 4);
            lostBy("b., its second time, is the first, too", t, 1, 2, 0);
            t.x.spoil(0, 0);
            lostBy("the first of all", t, 0, 2, 0);
            t.x.smash(0);
            lostBy("the first box", t, 0, 1, 0);
        });
        Edge.of(14, "the number of its PIECE (what 0), the cause (1), the BOX (2); NONE when it can be READ, there is none such, or for others.", () -> {
            for (int what = 0; what < 3; what++) {
                int told = what;
                Twins.unanswered("why(0, " + what + ") of one that can be read", EdgesOfReading::threeBoxes, t -> t.x.why(0, told));
                for (int b : NO_BACKUPS) {
                    Twins.unanswered("why(" + b + ", " + what + ")", Twins::rich, t -> t.x.why(b, told));
                }
            }
            for (int what : new int[] {3, -1, MOST_INT, LEAST_INT}) {
                Twins.unanswered("why(0, " + what + ")", Twins::rich, t -> t.x.why(0, what));
            }
            Due.is("one that is lost", Twins.rich().x.why(0, 0), 1);
        });
    }

    private static String letter(int c) {
        return String.valueOf((char) ('A' + c)).repeat(30) + ".";
    }

    /** Seven pieces, each in a box of its own, and no backup; then a backup that has them in an order. */
    private static Tried inOrder(int desk, int... order) {
        Tried t = Tried.with("box 60;segs 1;champs 1;desk " + desk + ";" + POINTS);
        for (int c = 0; c < 7; c++) {
            t.save(letter(c));
            t.x.forget(0);
        }
        StringBuilder file = new StringBuilder();
        for (int c : order) {
            file.append(letter(c));
        }
        t.save(file.toString());
        for (int k = 0; k < order.length; k++) {
            Due.is("the box of piece " + k, t.x.piece(0, k, 2), order[k]);
        }
        return t;
    }

    /** By plan 0 a box is on the desk, if fewer others than the desk has were used since it was. */
    private static int leastLately(int desk, int[] order) {
        int fetched = 0;
        for (int i = 0; i < order.length; i++) {
            int between = 0;
            int j = i - 1;
            while (j >= 0 && order[j] != order[i]) {
                boolean seen = false;
                for (int k = j + 1; k < i; k++) {
                    seen |= order[k] == order[j];
                }
                between += seen ? 0 : 1;
                j--;
            }
            fetched += j < 0 || between >= desk ? 1 : 0;
        }
        return fetched;
    }

    /** By plan 1 as few are fetched as by any choice of what is put away. */
    private static int fewest(int desk, int[] order, int at, int onDesk) {
        if (at == order.length) {
            return 0;
        }
        int own = 1 << order[at];
        if ((onDesk & own) != 0) {
            return fewest(desk, order, at + 1, onDesk);
        }
        if (Integer.bitCount(onDesk) < desk) {
            return 1 + fewest(desk, order, at + 1, onDesk | own);
        }
        int best = MOST_INT;
        for (int away = onDesk; away != 0; away &= away - 1) {
            best = Math.min(best, 1 + fewest(desk, order, at + 1, onDesk & ~Integer.lowestOneBit(away) | own));
        }
        return best;
    }

    private static void fetches() {
        Edge.of(15, "its BOX is fetched, if it is not on the desk (empty at first)", () -> {
            Due.is("one piece", inOrder(1, 0).x.fetches(0, 0), 1);
            Due.is("the same box again", inOrder(1, 0, 0, 0).x.fetches(0, 0), 1);
            Due.is("another one between", inOrder(1, 0, 1, 0).x.fetches(0, 0), 3);
            Tried t = inOrder(2, 0, 1, 0, 1);
            Due.is("two boxes on a desk of two", t.x.fetches(0, 0), 2);
            Due.is("empty at first, each time", t.x.fetches(0, 0), 2);
            Due.is("by the other plan, too", t.x.fetches(0, 1), 2);
            t = Tried.with("box 60;segs 8;" + POINTS);
            t.save("a.b.c.");
            Due.is("three pieces of a box", t.x.fetches(0, 0), 1);
        });
        Edge.of(15, "PIECE by PIECE (BROKEN or not)", () -> {
            Tried t = inOrder(1, 0, 1, 0);
            t.x.smash(0);
            t.x.spoil(0, 1);
            Due.is("plan 0", t.x.fetches(0, 0), 3);
            Due.is("plan 1", t.x.fetches(0, 1), 3);
        });
        Edge.of(15, "if as many BOXES are there as desk tells, one is put away ahead of that", () -> {
            for (int desk = 1; desk <= 6; desk++) {
                int[] full = new int[desk + 1];
                int[] over = new int[desk + 2];
                for (int i = 0; i <= desk; i++) {
                    full[i] = i % desk;
                    over[i] = i;
                }
                over[desk + 1] = 0;
                Due.is("a full desk of " + desk, inOrder(desk, full).x.fetches(0, 0), desk);
                Due.is("one more than a desk of " + desk, inOrder(desk, over).x.fetches(0, 0), desk + 2);
                Due.is("a full desk of " + desk + ", plan 1", inOrder(desk, full).x.fetches(0, 1), desk);
                Due.is("one more than a desk of " + desk + ", plan 1", inOrder(desk, over).x.fetches(0, 1), desk == 1 ? 3 : desk + 1);
            }
        });
        Edge.of(15, "by plan 0 the one that was used least lately", () -> {
            Due.is("it was used again, so the other one goes", inOrder(2, 0, 1, 0, 2, 0).x.fetches(0, 0), 3);
            Due.is("and is fetched again", inOrder(2, 0, 1, 0, 2, 1).x.fetches(0, 0), 4);
            for (int i = 0; i < 40; i++) {
                int[] order = mixed(i);
                int desk = 1 + i % 6;
                Due.is("order " + i, inOrder(desk, order).x.fetches(0, 0), leastLately(desk, order));
            }
        });
        Edge.of(15, "by plan 1 the one that is used again latest (of those never again, of like ones the first among all BOXES).", () -> {
            Due.is("1 is used again later than 0", inOrder(2, 0, 1, 2, 0, 1).x.fetches(0, 1), 4);
            Due.is("1 is never used again", inOrder(2, 1, 0, 2, 0, 2).x.fetches(0, 1), 3);
            Due.is("two are never used again", inOrder(2, 0, 1, 2, 3).x.fetches(0, 1), 4);
            for (int i = 0; i < 40; i++) {
                int[] order = mixed(i);
                int desk = 1 + i % 6;
                Due.is("order " + i, inOrder(desk, order).x.fetches(0, 1), fewest(desk, order, 0, 0));
            }
        });
        Edge.of(15, "by a plan (0, 1); NONE when there are none such.", () -> {
            for (int plan : new int[] {2, -1, MOST_INT, LEAST_INT}) {
                Twins.unanswered("fetches(0, " + plan + ")", Twins::rich, t -> t.x.fetches(0, plan));
            }
            for (int b : NO_BACKUPS) {
                Twins.unanswered("fetches(" + b + ", 0)", Twins::rich, t -> t.x.fetches(b, 0));
                Twins.unanswered("fetches(" + b + ", 1)", Twins::rich, t -> t.x.fetches(b, 1));
            }
        });
    }

    /** Twelve of seven boxes, or of fewer, another order for each number. */
    private static int[] mixed(int number) {
        int[] order = new int[12];
        int x = 7919 * (number + 1);
        int boxes = 3 + number % 5;
        for (int i = 0; i < order.length; i++) {
            x = (x * 1103 + 12345) & 0xfffff;
            order[i] = x / 16 % boxes;
        }
        return order;
    }

    // ---- ahead

    private static Tried onDay(int day, String store) {
        Tried t = Tried.with(store);
        for (int left = day; left > 0; left -= 40) {
            t.x.days(Math.min(left, 40));
        }
        Due.is("the day", t.x.has(7), day);
        return t;
    }

    private static void ahead() {
        Edge.of(16, "AHEAD are DAYS as they come from now on without DRAWS (40 at most, not beyond DAY 999).", () -> {
            String store = "box 60;keep 5;rot 100;" + POINTS;
            Due.is("40 on day 959", onDay(959, store).x.later(40, 0), 0);
            Due.is("40 on day 960", onDay(960, store).x.later(40, 0), PieceStore.NONE);
            Due.is("39 on day 960", onDay(960, store).x.later(39, 0), 0);
            Due.is("0 on day 999", onDay(999, store).x.later(0, 0), 0);
            Due.is("1 on day 999", onDay(999, store).x.later(1, 0), PieceStore.NONE);
            Tried t = Tried.with(store);
            t.save("a.");
            Due.is("no draw: live it is", t.x.later(4, 1), 1);
            Due.is("the seed stays", t.x.has(11), 1);
        });
        Edge.of(16, "Behind n DAYS AHEAD (0 .. 40): 0 BACKUPS, 1 LIVE STORED PIECES, 2 bytes of these.", () -> {
            int[][] want = {{3, 4, 11}, {3, 4, 11}, {1, 2, 6}, {1, 2, 6}, {0, 0, 0}};
            for (int n = 0; n < 5; n++) {
                for (int what = 0; what < 3; what++) {
                    int days = n;
                    int told = what;
                    Twins.answered("later(" + n + ", " + what + ")", EdgesOfReading::kept5, t -> t.x.later(days, told), want[n][what]);
                }
            }
            Twins.answered("later(40, 0)", EdgesOfReading::kept5, t -> t.x.later(40, 0), 0);
        });
        Edge.of(16, "NONE when n can't be, without a store, or for others.", () -> {
            for (int n : new int[] {41, -1, MOST_INT, LEAST_INT}) {
                Twins.unanswered("later(" + n + ", 0)", Twins::rich, t -> t.x.later(n, 0));
            }
            for (int what : new int[] {3, -1, MOST_INT, LEAST_INT}) {
                Twins.unanswered("later(0, " + what + ")", Twins::rich, t -> t.x.later(0, what));
            }
            for (int what = 0; what < 3; what++) {
                int told = what;
                Twins.unanswered("later(0, " + what + ") without a store", Twins::bare, t -> t.x.later(0, told));
            }
        });
    }

    /** Keep is 5: two backups of day 0, one of day 2, on day 3; each has a. and one other. */
    private static Tried kept5() {
        Tried t = Tried.with("box 60;keep 5;segs 2;champs 1;" + POINTS);
        t.save("a.bb.");
        t.save("a.c.");
        t.x.days(2);
        t.save("a.ddd.");
        t.x.days(1);
        return t;
    }

    private static void expires() {
        Edge.of(17, "Behind how many DAYS AHEAD (1 .. 40) a BACKUP has EXPIRED; NONE when it has not", () -> {
            int[] keeps = {0, 1, 2, 39, 40, 41, 99};
            int[] wants = {PieceStore.NONE, 1, 2, 39, 40, PieceStore.NONE, PieceStore.NONE};
            for (int i = 0; i < keeps.length; i++) {
                Tried t = Tried.with("box 60;keep " + keeps[i] + ";");
                t.save("abc");
                Due.is("keep " + keeps[i], t.x.expires(0), wants[i]);
                Due.is("it is there", t.x.has(1), 1);
                if (keeps[i] > 1) {
                    t.x.days(1);
                    Due.is("a day later, keep " + keeps[i], t.x.expires(0), keeps[i] == 99 ? PieceStore.NONE : keeps[i] - 1);
                }
            }
            Tried t = onDay(979, "box 60;keep 20;");
            t.save("abc");
            Due.is("on day 999", t.x.expires(0), 20);
            t = onDay(979, "box 60;keep 21;");
            t.save("abc");
            Due.is("beyond day 999", t.x.expires(0), PieceStore.NONE);
        });
        Edge.of(17, "or there is none such.", () -> {
            for (int b : NO_BACKUPS) {
                Twins.unanswered("expires(" + b + ")", Twins::rich, t -> t.x.expires(b));
            }
        });
    }

    private static void gain() {
        Edge.of(18, "By how many there would be less, if it were CLEANED now: 0 bytes in all BOXES, 1 BOXES (it may be below 0, then it is told as 0).", () -> {
            Tried t = Tried.with("box 60;champs 0;least 1;most 60;border byte=46;");
            Due.is("no boxes: bytes", t.x.gain(0), 0);
            Due.is("no boxes: boxes", t.x.gain(1), 0);
            t.save("a".repeat(30));
            t.save("b".repeat(30));
            t.save("c".repeat(30));
            t.save("d".repeat(20));
            Due.is("all lives: bytes", t.x.gain(0), 0);
            Due.is("all lives: boxes", t.x.gain(1), 0);
            t.x.forget(0);
            Due.is("30 of 60 are not more than 30", t.x.gain(0), 0);
            t.x.forget(2);
            Due.is("30 of 50 are: bytes", t.x.gain(0), 30);
            Due.is("20 do not go behind 60: boxes", t.x.gain(1), 0);
            t.x.forget(1);
            t.x.smash(1);
            Due.is("60 of 60, and a broken one that stays", t.x.gain(0), 60);
            Due.is("one box", t.x.gain(1), 1);
            t.x.smash(0);
            Due.is("two broken ones: bytes", t.x.gain(0), 0);
            Due.is("two broken ones: boxes", t.x.gain(1), 0);
            t = Tried.with("box 60;champs 0;clean live=60;least 1;most 60;border byte=46;");
            t.save("a".repeat(30) + "." + "b".repeat(28) + ".");
            t.save("c".repeat(30));
            Due.is("a box that comes again: bytes", t.x.gain(0), 0);
            Due.is("never below 0: boxes", t.x.gain(1), 0);
            Twins.answered("nothing is changed", EdgesOfReading::half, y -> y.x.gain(0), 90);
            Twins.answered("nothing is changed by what 1", EdgesOfReading::half, y -> y.x.gain(1), 1);
        });
        Edge.of(18, "NONE without a store, or for others.", () -> {
            Twins.unanswered("gain(0) without a store", Twins::bare, t -> t.x.gain(0));
            Twins.unanswered("gain(1) without a store", Twins::bare, t -> t.x.gain(1));
            for (int what : new int[] {2, -1, MOST_INT, LEAST_INT}) {
                Twins.unanswered("gain(" + what + ")", Twins::rich, t -> t.x.gain(what));
            }
        });
    }

    /** Two boxes of which 20 bytes live and 90 do not. */
    private static Tried half() {
        Tried t = Tried.with("box 60;champs 0;least 1;most 60;border byte=46;");
        t.save("a".repeat(50));
        t.save("b".repeat(10));
        t.save("c".repeat(40));
        t.save("d".repeat(10));
        t.x.forget(0);
        t.x.forget(2);
        return t;
    }

    /** Each row once: by so many of them backup 0 can be read, when its pieces lie in the boxes that are told. */
    private static int rows(int rot, int boxes, int... own) {
        int rows = 0;
        for (int number = 0; number < 100; number++) {
            for (int box = 0; box < boxes; box++) {
                boolean broken = false;
                for (int one : own) {
                    broken |= number < rot && one == box;
                }
                rows += broken ? 0 : 1;
            }
        }
        return rows;
    }

    private static void odds() {
        Edge.of(19, "by how many of all rows of a number below 100, a BOX it can be READ behind the DRAWS of the next DAY by the seed (ahead of what expires).", () -> {
            for (int rot : new int[] {0, 1, 50, 99, 100}) {
                Tried t = Tried.with("box 60;keep 1;champs 1;segs 1;rot " + rot + ";" + POINTS);
                t.save(letter(0));
                t.save(letter(1) + letter(0) + letter(1));
                t.save(letter(2) + letter(3));
                Due.is("one box of four, rot " + rot, t.x.odds(0), rows(rot, 4, 0));
                Due.is("two boxes of four, rot " + rot, t.x.odds(1), rows(rot, 4, 0, 1));
                t.x.smash(0);
                Due.is("broken already, rot " + rot, t.x.odds(0), 0);
                Due.is("one of its boxes broken already, rot " + rot, t.x.odds(1), 0);
                Due.is("another box broken, rot " + rot, t.x.odds(2), rows(rot, 4, 2, 3));
                t.x.spoil(2, 1);
                Due.is("spoiled, rot " + rot, t.x.odds(2), 0);
            }
            Twins.answered("nothing is drawn", Twins::quietOne, t -> t.x.odds(0), 50);
        });
        Edge.of(19, "all rows for the BACKUP NONE.", () -> {
            for (int boxes = 1; boxes <= 7; boxes++) {
                Tried t = Tried.with("box 60;rot 77;champs 0;" + POINTS);
                for (int b = 0; b < boxes; b++) {
                    t.save(letter(b));
                }
                t.x.smash(0);
                Due.is("with " + boxes + " boxes", t.x.odds(PieceStore.NONE), 100 * boxes);
            }
        });
        Edge.of(19, "NONE when there is none such, without BOXES, or beyond DAY 999.", () -> {
            for (int b : new int[] {1, 3, 11, 12, -2, MOST_INT, LEAST_INT}) {
                Twins.unanswered("odds(" + b + ")", Twins::rich, t -> t.x.odds(b));
            }
            for (int b = -1; b <= 0; b++) {
                int backup = b;
                Twins.unanswered("odds(" + b + ") without a store", Twins::bare, t -> t.x.odds(backup));
                Twins.unanswered("odds(" + b + ") without boxes", Twins::quiet, t -> t.x.odds(backup));
                Twins.unanswered("odds(" + b + ") on day 999", Twins::late, t -> t.x.odds(backup));
                Tried t = onDay(998, "box 60;");
                t.save("abc");
                Due.is("odds(" + b + ") on day 998", t.x.odds(b), 100);
            }
        });
    }

    // ---- windows

    private static void meet() {
        Edge.of(20, "The tape (it goes) tells MET, 1 to 16 rows of two bytes (the length 0 .. 60): how many rows", () -> {
            Tried t = Twins.quiet();
            for (int rows = 1; rows <= 16; rows++) {
                Due.is(rows + " rows", t.meet(new int[2 * rows]), rows);
                Due.is("the tape is empty", t.x.end(1), false);
                Due.is("so many are met", t.x.has(9), rows);
            }
            Due.is("the latest alone counts", t.meet(1, 1), 1);
            Due.is("one", t.x.has(9), 1);
            Due.is("a length of 60", t.meet(0, 60), 1);
            Due.is("a length of 0", t.meet(0, 0), 1);
            Due.is("nothing refused", t.x.status(5), 0);
            Due.is("no act", t.x.has(10), 0);
        });
        Edge.of(20, "MET are rows of a number of a PIECE (0 .. 39), a length (0: there is none)", () -> {
            Tried t = Twins.quiet();
            Due.is("number 0", t.meet(0, 1), 1);
            Due.is("number 39", t.meet(39, 1), 1);
            t.save(".".repeat(39));
            t.meet(38, 1, 39, 0);
            Due.is("there is a piece 38, and no piece 39", t.x.windows(0), ALL_WINDOWS);
            t.meet(38, 0);
            Due.is("there is a piece 38", t.x.windows(0), 0);
            t.save(".".repeat(40) + "ab.");
            t.meet(39, 0);
            Due.is("there is a piece 39", t.x.windows(1), 0);
            t.meet(39, 1);
            Due.is("it has a byte", t.x.windows(1), ALL_WINDOWS);
            t.save("x".repeat(59) + ".");
            t.meet(0, 60);
            Due.is("a piece of 60", t.x.windows(2), ALL_WINDOWS);
            t.meet(0, 59);
            Due.is("not of 59", t.x.windows(2), 0);
        });
        Edge.of(20, "NONE, refused (5), when it is none such, or without a store.", () -> {
            Twins.refused("no rows", 5, Twins::rich, t -> t.meet(), PieceStore.NONE);
            Twins.refused("17 rows", 5, Twins::rich, t -> t.meet(new int[34]), PieceStore.NONE);
            Twins.refused("a byte", 5, Twins::rich, t -> t.meet(1), PieceStore.NONE);
            Twins.refused("three bytes", 5, Twins::rich, t -> t.meet(1, 1, 1), PieceStore.NONE);
            Twins.refused("31 bytes", 5, Twins::rich, t -> t.meet(new int[31]), PieceStore.NONE);
            Twins.refused("33 bytes", 5, Twins::rich, t -> t.meet(new int[33]), PieceStore.NONE);
            Twins.refused("1600 bytes", 5, Twins::rich, t -> t.meet(new int[1600]), PieceStore.NONE);
            Twins.refused("number 40", 5, Twins::rich, t -> t.meet(40, 1), PieceStore.NONE);
            Twins.refused("number 255", 5, Twins::rich, t -> t.meet(255, 1), PieceStore.NONE);
            Twins.refused("length 61", 5, Twins::rich, t -> t.meet(0, 61), PieceStore.NONE);
            Twins.refused("length 255", 5, Twins::rich, t -> t.meet(0, 255), PieceStore.NONE);
            Twins.refused("a wrong row behind a right one", 5, Twins::rich, t -> t.meet(3, 3, 40, 1), PieceStore.NONE);
            Twins.refused("without a store", 5, Twins::bare, t -> t.meet(0, 1), PieceStore.NONE);
        });
    }

    /** The lengths of the pieces of a file by a window, when the test of border is sum%5=0 and least is 1. */
    private static List<Integer> lengths(String file, int window) {
        List<Integer> all = new ArrayList<>();
        int length = 0;
        for (int i = 0; i < file.length(); i++) {
            int sum = 0;
            for (int j = Math.max(0, i - window + 1); j <= i; j++) {
                sum = (31 * sum + file.charAt(j)) % 1009;
            }
            length++;
            if (sum % 5 == 0 || length == 30 || i == file.length() - 1) {
                all.add(length);
                length = 0;
            }
        }
        return all;
    }

    private static int lengthOf(List<Integer> lengths, int k) {
        return k < lengths.size() ? lengths.get(k) : 0;
    }

    private static int left(String file, int... met) {
        int bits = 0;
        for (int window = 1; window <= WINDOWS; window++) {
            List<Integer> lengths = lengths(file, window);
            boolean so = true;
            for (int i = 0; i < met.length; i += 2) {
                so &= lengthOf(lengths, met[i]) == met[i + 1];
            }
            bits |= so ? 1 << window : 0;
        }
        return bits;
    }

    private static final String FIVES = "box 200;least 1;border sum%5=0;";

    /** A file of some bytes, another for each number. */
    private static String file(int number, int bytes) {
        StringBuilder s = new StringBuilder();
        int x = 977 * (number + 1);
        for (int i = 0; i < bytes; i++) {
            x = (x * 1103 + 12345) & 0xfffff;
            s.append((char) (x / 16 % 256));
        }
        return s.toString();
    }

    private static void windows() {
        Edge.of(21, "WINDOWS (1 .. 16) are those by which the FILE of a told BACKUP would be CUT so that all is so.", () -> {
            for (int window = 1; window <= WINDOWS; window++) {
                String file = file(window, 60);
                Tried t = Tried.with(FIVES + "window 3;");
                t.save(file);
                List<Integer> lengths = lengths(file, window);
                Due.is("by no row", t.x.windows(0), ALL_WINDOWS);
                for (int rows = 1; rows <= 3; rows++) {
                    int[] met = new int[2 * rows];
                    for (int i = 0; i < rows; i++) {
                        met[2 * i] = i;
                        met[2 * i + 1] = lengthOf(lengths, i);
                    }
                    t.meet(met);
                    Due.is(rows + " rows of window " + window, t.x.windows(0), left(file, met));
                    Due.is("it is among them", (t.x.windows(0) & 1 << window) != 0, true);
                }
                t.meet(0, lengthOf(lengths, 0), 0, lengthOf(lengths, 0) + 1);
                Due.is("two rows that can't both be so", t.x.windows(0), 0);
            }
        });
        Edge.of(21, "WINDOWS by MET (of the latest meet() of this STORE that was not refused; all, if there was none)", () -> {
            String file = file(5, 60);
            int first = lengths(file, 2).get(0);
            Tried t = Tried.with(FIVES);
            t.save(file);
            t.meet(0, 61);
            Due.is("none but refused ones: all", t.x.windows(0), ALL_WINDOWS);
            t.meet(0, first);
            int some = left(file, 0, first);
            Due.is("some", t.x.windows(0), some);
            Due.is("neither all nor none", some != 0 && some != ALL_WINDOWS, true);
            t.meet(40, 1);
            Due.is("a refused one changes nothing", t.x.windows(0), some);
            t.meet(39, 0);
            Due.is("the latest", t.x.windows(0), ALL_WINDOWS);
            t.meet(0, first);
            t.store("box 20;");
            Due.is("a refused store changes nothing", t.x.windows(0), some);
            t.x.undo();
            t.save(file);
            Due.is("nor does an act that is undone", t.x.windows(0), some);
            t.store(FIVES);
            t.save(file);
            Due.is("not of the store ahead", t.x.windows(0), ALL_WINDOWS);
        });
        Edge.of(21, "as bits (bit k for a window of k); NONE when there is no such BACKUP.", () -> {
            Due.is("1 to 16, not 0 nor 17", Twins.quietOne().x.windows(0), ALL_WINDOWS);
            Tried t = Tried.with("box 60;least 1;border sum=98;");
            t.save("aabaa");
            t.meet(0, 3);
            Due.is("the window of 1 alone", t.x.windows(0), 2);
            int sixteen = 0;
            for (int i = 0; i < 16; i++) {
                sixteen = (31 * sixteen + (i == 0 ? 'z' : 'a')) % 1009;
            }
            t = Tried.with("box 60;least 1;border sum=" + sixteen + ";");
            t.save("yz" + "a".repeat(20));
            t.meet(0, 17);
            Due.is("the window of 16 alone", t.x.windows(0), 65536);
            t = Tried.with(FIVES);
            t.save(file(1, 60));
            t.save(file(2, 60));
            int one = lengths(file(1, 60), 1).get(0);
            t.meet(0, one);
            for (int i = 0; i < 2; i++) {
                Due.is("of the first backup", t.x.windows(0), left(file(1, 60), 0, one));
                Due.is("of the second backup", t.x.windows(1), left(file(2, 60), 0, one));
                t.cuts(file(3, 60), 0);
            }
            Due.is("they are not the same", t.x.windows(0) != t.x.windows(1), true);
            for (int b : NO_BACKUPS) {
                Twins.unanswered("windows(" + b + ")", Twins::rich, y -> y.x.windows(b));
            }
            Twins.unanswered("windows(0) without a store", Twins::bare, y -> y.x.windows(0));
        });
    }

    /** By each piece the most of the windows left that have one length: what is told, and how many. */
    private static int[] telling(String file, int left) {
        int best = 0;
        int fewest = MOST_INT;
        for (int k = 0; k < TOLD; k++) {
            Map<Integer, Integer> counts = new TreeMap<>();
            for (int window = 1; window <= WINDOWS; window++) {
                if ((left & 1 << window) != 0) {
                    counts.merge(lengthOf(lengths(file, window), k), 1, Integer::sum);
                }
            }
            int most = 0;
            for (int count : counts.values()) {
                most = Math.max(most, count);
            }
            if (most < fewest) {
                best = k;
                fewest = most;
            }
        }
        return new int[] {best, fewest};
    }

    private static void tells() {
        Edge.of(22, "TELLING is the number of the PIECE (0 .. 39) by whose length, whatever it is, the most of these left are fewest; of like ones the first.", () -> {
            String lone = "box 60;least 1;border byte=46 or byte=98 and sum=98;";
            for (int points = 38; points <= 41; points++) {
                Tried t = Tried.with(lone);
                t.save(".".repeat(points) + "abcc");
                Due.is("by piece " + points + " a window of 1 is told: number", t.x.tells(0, 0), points < 40 ? points : 0);
                Due.is("by piece " + points + " a window of 1 is told: left", t.x.tells(0, 1), points < 40 ? 15 : 16);
            }
            for (int most : new int[] {30, 59, 60}) {
                Tried t = Tried.with("box 60;least 1;most " + most + ";border byte=98 and sum=98;");
                t.save("a".repeat(most - 2) + "baaaa");
                Due.is("a piece of " + most + ", by one window less: number", t.x.tells(0, 0), 0);
                Due.is("a piece of " + most + ", by one window less: left", t.x.tells(0, 1), 15);
                t = Tried.with("box 60;most " + most + ";border not all;");
                t.save("a".repeat(61));
                Due.is("all of " + most + ": number", t.x.tells(0, 0), 0);
                Due.is("all of " + most + ": left", t.x.tells(0, 1), 16);
            }
            boolean notTheFirst = false;
            for (int i = 0; i < 60; i++) {
                String file = file(i, 1 + 3 * i);
                Tried t = Tried.with(FIVES);
                t.save(file);
                int[] want = telling(file, ALL_WINDOWS);
                Due.is("file " + i + ": number", t.x.tells(0, 0), want[0]);
                Due.is("file " + i + ": left", t.x.tells(0, 1), want[1]);
                notTheFirst |= want[0] > 3;
                int length = lengths(file, 1 + i % 16).get(0);
                t.meet(0, length);
                want = telling(file, left(file, 0, length));
                Due.is("file " + i + " with a row: number", t.x.tells(0, 0), want[0]);
                Due.is("file " + i + " with a row: left", t.x.tells(0, 1), want[1]);
            }
            Due.is("there are files told by a later piece", notTheFirst, true);
        });
        Edge.of(22, "TELLING of a BACKUP: the number of the PIECE (what 0), how many WINDOWS are left at the most (1).", () -> {
            Tried t = Tried.with("box 60;least 1;border sum=98;");
            t.save("aabaa");
            Due.is("number", t.x.tells(0, 0), 0);
            Due.is("left", t.x.tells(0, 1), 15);
            t.meet(0, 3);
            Due.is("one window: number", t.x.tells(0, 0), 0);
            Due.is("one window: left", t.x.tells(0, 1), 1);
        });
        Edge.of(22, "NONE without any left, when there is no such BACKUP, or for others.", () -> {
            for (int what = 0; what < 2; what++) {
                int told = what;
                Twins.unanswered("tells(0, " + what + ") without any left", EdgesOfReading::noneLeft, t -> t.x.tells(0, told));
                for (int b : NO_BACKUPS) {
                    Twins.unanswered("tells(" + b + ", " + what + ")", Twins::rich, t -> t.x.tells(b, told));
                }
            }
            for (int what : new int[] {2, -1, MOST_INT, LEAST_INT}) {
                Twins.unanswered("tells(0, " + what + ")", Twins::rich, t -> t.x.tells(0, what));
            }
            Due.is("with some left", Twins.rich().x.tells(0, 1), 16);
        });
    }

    private static Tried noneLeft() {
        Tried t = Twins.rich();
        t.meet(0, 59);
        return t;
    }
}
