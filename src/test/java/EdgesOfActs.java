/** Terms II, DAYS, CLEANING, ACTS, DRAWS, and the promises 24 to 31 and 33: acts, undoing, the seed, what was refused. */
final class EdgesOfActs {
    private static final int MOST_INT = Integer.MAX_VALUE;
    private static final int LEAST_INT = Integer.MIN_VALUE;
    private static final int[] NO_BACKUPS = {1, 3, 11, 12, -1, -2, MOST_INT, LEAST_INT};
    private static final int[] NO_DAYS = {0, -1, 41, 999, MOST_INT, LEAST_INT};
    private static final String POINTS = "least 1;most 60;border byte=46;hook all;";
    private static final int ACTS_MOST = 20;

    private EdgesOfActs() {
    }

    static void all() {
        forgetting();
        days();
        lastDay();
        draws();
        chance();
        cleaning();
        cleaningRefused();
        spoiling();
        smashing();
        acts();
        undoing();
        seed();
        refusals();
    }

    private static void forgetting() {
        Edge.of(24, "A BACKUP is forgotten (it is no more): true", () -> {
            Tried t = Tried.with("box 60;" + POINTS);
            for (int b = 0; b <= 11; b++) {
                t.save((char) ('a' + b) + ".");
            }
            for (int b = 0; b <= 11; b += 11) {
                Due.is("forget(" + b + ")", t.x.forget(b), true);
                Due.is("it is no more", t.x.backup(b, 0), PieceStore.NONE);
                Due.is("nor its bytes", t.x.octet(b, 0), PieceStore.NONE);
            }
            Due.is("ten are left", t.x.has(1), 10);
            Due.is("their pieces live", t.x.has(3), 10);
            Due.is("all pieces are stored", t.x.has(2), 12);
            Due.is("nothing refused", t.x.status(3), 0);
        });
        Edge.of(24, "false, refused (3), when there is none such.", () -> {
            for (int b : NO_BACKUPS) {
                Twins.refused("forget(" + b + ")", 3, Twins::rich, t -> t.x.forget(b) ? 1 : 0, 0);
            }
            Twins.refused("forget(0) without a store", 3, Twins::bare, t -> t.x.forget(0) ? 1 : 0, 0);
            Twins.refused("forget(0) of nothing saved", 3, Twins::quiet, t -> t.x.forget(0) ? 1 : 0, 0);
        });
    }

    // ---- days

    private static void days() {
        Edge.of(25, "BACKUPS that are there for as many DAYS as keep tells, or more, with this one, EXPIRE (they are no more), if keep is above 0", () -> {
            for (int keep : new int[] {1, 2, 39, 40}) {
                Tried t = Tried.with("box 60;keep " + keep + ";" + POINTS);
                t.save("a.");
                if (keep > 1) {
                    Due.is("a day too few, keep " + keep, t.x.days(keep - 1), 0);
                    Due.is("it is there", t.x.has(1), 1);
                }
                Due.is("with this one, keep " + keep, t.x.days(1), 1);
                Due.is("it is no more", t.x.has(1), 0);
                Due.is("its piece is not live", t.x.has(3), 0);
                Due.is("but stored", t.x.has(2), 1);
                Due.is("and expires once", t.x.days(40), 0);
            }
            Tried t = Tried.with("box 60;keep 99;" + POINTS);
            t.save("a.");
            t.x.days(40);
            t.x.days(40);
            Due.is("98 days of 99", t.x.days(18), 0);
            Due.is("99 of 99", t.x.days(1), 1);
            t = Tried.with("box 60;keep 0;" + POINTS);
            t.save("a.");
            for (int i = 0; i < 24; i++) {
                Due.is("keep 0", t.x.days(40), 0);
            }
            Due.is("it stays", t.x.has(1), 1);
        });
        Edge.of(25, "n DAYS go by (1 .. 40), without DRAWS: how many BACKUPS EXPIRE", () -> {
            Tried t = Tried.with("box 60;keep 3;rot 100;" + POINTS);
            t.save("a.");
            t.save("b.");
            t.x.days(1);
            t.save("c.");
            Due.is("one day", t.x.days(1), 0);
            Due.is("the third", t.x.days(1), 2);
            Due.is("the other one is there", t.x.backup(2, 2), 1);
            Due.is("40 days", t.x.days(40), 1);
            Due.is("the day", t.x.has(7), 43);
            Due.is("no draw: the seed", t.x.has(11), 1);
            Due.is("no draw: the box", t.x.box(0, 4), 0);
            Due.is("nothing refused", t.x.status(2), 0);
        });
        Edge.of(25, "NONE, refused (2), when it can't be (beyond DAY 999, without a store).", () -> {
            for (int n : NO_DAYS) {
                Twins.refused("days(" + n + ")", 2, Twins::rich, t -> t.x.days(n), PieceStore.NONE);
            }
            for (int n : new int[] {0, 1, 40}) {
                Twins.refused("days(" + n + ") without a store", 2, Twins::bare, t -> t.x.days(n), PieceStore.NONE);
            }
            Twins.refused("days(1) on day 999", 2, Twins::late, t -> t.x.days(1), PieceStore.NONE);
            Twins.refused("days(40) on day 960", 2, () -> onDay(960), t -> t.x.days(40), PieceStore.NONE);
        });
    }

    private static Tried onDay(int day) {
        Tried t = Tried.with("box 60;rot 100;" + POINTS);
        for (int left = day; left > 0; left -= 40) {
            t.x.days(Math.min(left, 40));
        }
        return t;
    }

    private static void lastDay() {
        Edge.of(25, "the DAY is one more (999 at most).", () -> {
            Tried t = onDay(998);
            Due.is("two days on day 998", t.x.days(2), PieceStore.NONE);
            Due.is("day 998 it is", t.x.has(7), 998);
            Due.is("one day", t.x.days(1), 0);
            Due.is("day 999", t.x.has(7), 999);
            Due.is("one more", t.x.days(1), PieceStore.NONE);
            Due.is("day 999 it stays", t.x.has(7), 999);
            Due.is("39 on day 960", onDay(960).x.days(39), 0);
            Due.is("40 on day 959", onDay(959).x.days(40), 0);
            Due.is("39 by the seed on day 960", onDay(960).x.chance(39), 0);
            t.save("abc");
            Due.is("a save on day 999", t.x.backup(0, 0), 999);
            t.x.undo();
            t.x.undo();
            Due.is("undone it is day 998", t.x.has(7), 998);
        });
    }

    // ---- the seed

    /** The seed behind one draw, by long numbers. */
    private static long drawn(long x) {
        return (1103515245L * x + 12345L) % 2147483648L;
    }

    /** A store without boxes: a day is one draw of 100 and nothing else. */
    private static int seedBehind(int seed) {
        Tried t = Tried.with("box 60;rot 100;");
        t.x.seed(seed);
        t.x.chance(1);
        return t.x.has(11);
    }

    private static void draws() {
        Edge.of(26, "A DRAW of m: x (the seed) becomes (1103515245 x + 12345) mod 2 to the 31; floor(x / 64) mod m.", () -> {
            for (int seed : new int[] {0, 1, 2, 77, 12345, 1 << 30, MOST_INT - 1, MOST_INT}) {
                Due.is("the seed behind " + seed, seedBehind(seed), drawn(seed));
            }
            Due.is("from 0", seedBehind(0), 12345);
            int wraps = 0;
            long x = 1;
            for (int i = 0; i < 50; i++) {
                wraps += 1103515245L * x + 12345L > MOST_INT ? 1 : 0;
                Due.is("draw " + i, seedBehind((int) x), drawn(x));
                x = drawn(x);
            }
            Due.is("it wraps around", wraps > 40, true);
            for (int boxes = 1; boxes <= 5; boxes++) {
                Tried t = Tried.with("box 60;rot 100;champs 0;" + POINTS);
                for (int b = 0; b < boxes; b++) {
                    t.save(String.valueOf((char) ('a' + b)).repeat(40) + ".");
                }
                t.x.seed(31 * boxes);
                t.x.chance(1);
                long second = drawn(drawn(31 * boxes));
                for (int b = 0; b < boxes; b++) {
                    Due.is("box " + b + " of " + boxes, t.x.box(b, 4), second / 64 % boxes == b ? 1 : 0);
                }
                Due.is("two draws", t.x.has(11), second);
            }
        });
        Edge.of(26, "BY THE SEED a DAY begins with a DRAW of 100: below rot, if there are BOXES, a DRAW of these: that one is BROKEN (it may be so already).", () -> {
            for (int seed : new int[] {5, 6, 7, 8, 9, 10, 99}) {
                int number = (int) (drawn(seed) / 64 % 100);
                for (int rot = Math.max(0, number - 1); rot <= Math.min(100, number + 1); rot++) {
                    Tried t = Tried.with("box 60;rot " + rot + ";" + POINTS);
                    t.save("a.");
                    t.x.seed(seed);
                    Due.is(number + " drawn, rot " + rot, t.x.chance(1), number < rot ? 1 : 0);
                    Due.is("broken", t.x.box(0, 4), number < rot ? 1 : 0);
                    Due.is("the seed", t.x.has(11), number < rot ? drawn(drawn(seed)) : drawn(seed));
                }
            }
            Tried t = Tried.with("box 60;rot 100;");
            Due.is("without boxes none is drawn", t.x.chance(3), 0);
            Due.is("but a number each day", t.x.has(11), drawn(drawn(drawn(1))));
            t = Tried.with("box 60;rot 100;" + POINTS);
            t.save("a.");
            t.x.smash(0);
            Due.is("a broken one is drawn, too", t.x.chance(2), 2);
            Due.is("and is broken", t.x.box(0, 4), 1);
            t = Tried.with("box 60;rot 0;" + POINTS);
            t.save("a.");
            Due.is("rot 0", t.x.chance(40), 0);
            Due.is("nothing broken", t.x.box(0, 4), 0);
            t = Tried.with("box 60;rot 100;keep 1;" + POINTS);
            t.save("a.");
            Due.is("a day begins with it: ahead of what expires", t.x.chance(1), 1);
            Due.is("and then it expires", t.x.has(1), 0);
        });
    }

    private static void chance() {
        Edge.of(26, "n DAYS by the seed (1 .. 40), one ACT: how many times a BOX was drawn", () -> {
            Tried t = Tried.with("box 60;rot 100;keep 2;" + POINTS);
            t.save("a.");
            Due.is("one day", t.x.chance(1), 1);
            Due.is("40 days", t.x.chance(40), 40);
            Due.is("the day", t.x.has(7), 41);
            Due.is("it has expired", t.x.has(1), 0);
            Due.is("three acts", t.x.has(10), 3);
            t.x.undo();
            Due.is("40 days are undone at once", t.x.has(7), 1);
            Due.is("nothing refused", t.x.status(2), 0);
            t = Tried.with("box 60;rot 40;" + POINTS);
            t.save("a.");
            t.x.seed(20261118);
            long x = 20261118;
            int times = 0;
            for (int day = 0; day < 12; day++) {
                x = drawn(x);
                if (x / 64 % 100 < 40) {
                    times++;
                    x = drawn(x);
                }
            }
            Due.is("some of twelve days", t.x.chance(12), times);
            Due.is("neither none nor all", times > 0 && times < 12, true);
            Due.is("the seed", t.x.has(11), x);
        });
        Edge.of(26, "NONE, refused (2), when it can't be.", () -> {
            for (int n : NO_DAYS) {
                Twins.refused("chance(" + n + ")", 2, Twins::rich, t -> t.x.chance(n), PieceStore.NONE);
            }
            for (int n : new int[] {0, 1, 40}) {
                Twins.refused("chance(" + n + ") without a store", 2, Twins::bare, t -> t.x.chance(n), PieceStore.NONE);
            }
            Twins.refused("chance(1) on day 999", 2, Twins::late, t -> t.x.chance(1), PieceStore.NONE);
            Twins.refused("chance(40) on day 960", 2, () -> onDay(960), t -> t.x.chance(40), PieceStore.NONE);
        });
    }

    // ---- cleaning

    private static String filled(char c, int bytes) {
        return String.valueOf(c).repeat(bytes - 1) + ".";
    }

    private static void cleaning() {
        Edge.of(27, "TO CLEAN: all BOXES that are not BROKEN, for which the TEST of clean holds (without it: dead > live), are no more, and what was in them and is not LIVE", () -> {
            for (int dead = 29; dead <= 31; dead++) {
                Tried t = Tried.with("box 60;champs 0;" + "least 1;most 60;border byte=46;");
                t.save(filled('a', dead));
                t.save(filled('b', 60 - dead));
                t.x.forget(0);
                Due.is(dead + " dead of 60", t.x.clean(), dead == 31 ? 1 : PieceStore.NONE);
                Due.is("pieces", t.x.has(2), dead == 31 ? 1 : 2);
                Due.is("bytes", t.x.has(5), dead == 31 ? 29 : 60);
            }
            Tried t = Tried.with("box 60;champs 0;clean all;" + POINTS);
            for (char c = 'a'; c < 'e'; c++) {
                t.save(filled(c, 50));
            }
            t.x.forget(1);
            t.x.forget(2);
            t.x.smash(2);
            Due.is("three of four, not the broken one", t.x.clean(), 3);
            Due.is("the broken one is left", t.x.box(0, 4), 1);
            Due.is("with what is not live", t.x.box(0, 2), 0);
            Due.is("two new ones behind it", t.x.has(4), 3);
            Due.is("three pieces", t.x.has(2), 3);
            Due.is("the first backup", t.x.piece(0, 0, 2), 1);
            Due.is("the last", t.x.piece(3, 0, 2), 2);
            t = Tried.with("box 60;clean all;" + POINTS);
            t.save("a.");
            t.x.forget(0);
            Due.is("all of it", t.x.clean(), 1);
            Due.is("no box is left", t.x.has(4), 0);
            Due.is("nor a piece", t.x.has(2), 0);
        });
        Edge.of(27, "what is LIVE is put, BOX by BOX, in its order, behind all in the last BOX that is left, if box tells enough, else in a new one.", () -> {
            for (int live = 19; live <= 21; live++) {
                Tried t = Tried.with("box 60;champs 0;" + "least 1;most 60;border byte=46;");
                t.save(filled('a', 39));
                t.save(filled('b', live));
                t.save(filled('c', 40));
                t.x.forget(0);
                t.x.days(4);
                Due.is("one box", t.x.clean(), 1);
                Due.is(live + " behind 40 of 60: boxes", t.x.has(4), live == 21 ? 2 : 1);
                Due.is("its box", t.x.piece(1, 0, 2), live == 21 ? 1 : 0);
                Due.is("its place", t.x.piece(1, 0, 3), live == 21 ? 0 : 1);
                Due.is("the other one has moved up", t.x.piece(2, 0, 2), 0);
                Due.is("the box that is left keeps its days", t.x.box(0, 3), 4);
                Due.is("a new one is new", t.x.box(1, 3), live == 21 ? 0 : PieceStore.NONE);
            }
            Tried t = Tried.with("box 60;champs 0;clean dead>0;" + "least 1;most 60;border byte=46;");
            t.save("A.");
            t.save(filled('b', 21) + filled('c', 21));
            t.save(filled('D', 31));
            t.save(filled('e', 21));
            t.save(filled('f', 41));
            t.save(filled('g', 19));
            t.x.spoil(1, 1);
            t.x.forget(0);
            t.x.forget(2);
            Due.is("two boxes", t.x.clean(), 2);
            int[][] want = {{4, 0, 0, 0}, {5, 0, 0, 1}, {1, 0, 1, 0}, {1, 1, 1, 1}, {3, 0, 2, 0}};
            for (int[] w : want) {
                Due.is("box of " + w[0] + ", " + w[1], t.x.piece(w[0], w[1], 2), w[2]);
                Due.is("place of " + w[0] + ", " + w[1], t.x.piece(w[0], w[1], 3), w[3]);
            }
            Due.is("spoiled it stays", t.x.piece(1, 1, 4), 1);
            Due.is("the others are not", t.x.piece(1, 0, 4), 0);
            Due.is("its bytes", t.x.octet(1, 21), 'c');
            t = Tried.with("box 60;champs 0;clean dead>0;" + "least 1;most 60;border byte=46;");
            t.save("A.");
            t.save(filled('b', 58));
            t.save(filled('c', 2));
            t.x.forget(0);
            t.x.smash(1);
            t.x.clean();
            Due.is("behind 2 in a broken one: 60", t.x.piece(1, 0, 2), 0);
            Due.is("so it is lost", t.x.why(1, 1), 1);
        });
        Edge.of(27, "It is CLEANED: how many BOXES were it", () -> {
            for (int boxes = 1; boxes <= 5; boxes++) {
                Tried t = Tried.with("box 60;champs 0;" + POINTS);
                for (int b = 0; b < boxes; b++) {
                    t.save(filled((char) ('a' + b), 50));
                }
                for (int b = 0; b < boxes; b++) {
                    t.x.forget(b);
                }
                Due.is(boxes + " boxes", t.x.clean(), boxes);
                Due.is("one act", t.x.has(10), 2 * boxes + 1);
                Due.is("nothing refused", t.x.status(2), 0);
            }
        });
    }

    private static void cleaningRefused() {
        Edge.of(27, "NONE, refused (2), when none would be, or without a store.", () -> {
            Twins.refused("without a store", 2, Twins::bare, t -> t.x.clean(), PieceStore.NONE);
            Twins.refused("without boxes", 2, Twins::quiet, t -> t.x.clean(), PieceStore.NONE);
            Twins.refused("all lives", 2, Twins::quietOne, t -> t.x.clean(), PieceStore.NONE);
            Twins.refused("the one that could be is broken", 2, Twins::rich, t -> t.x.clean(), PieceStore.NONE);
            Tried t = Twins.rich();
            Due.is("its test holds", t.x.box(1, 5), 1);
            t.x.undo();
            t.x.undo();
            Due.is("when it is not broken it is cleaned", t.x.clean(), 1);
        });
    }

    // ---- spoiling, smashing

    private static void spoiling() {
        Edge.of(28, "The k-th PIECE of a BACKUP is SPOILED: true", () -> {
            Tried t = Tried.with("box 60;champs 1;segs 4;" + POINTS);
            t.save("a.b.c.");
            t.save("b.");
            Due.is("the first", t.x.spoil(0, 0), true);
            Due.is("the last", t.x.spoil(0, 2), true);
            Due.is("it is", t.x.piece(0, 2, 4), 1);
            Due.is("another is not", t.x.piece(0, 1, 4), 0);
            t.x.spoil(1, 0);
            Due.is("one that two backups have", t.x.piece(0, 1, 4), 1);
            Due.is("nothing refused", t.x.status(3), 0);
            Due.is("three acts more", t.x.has(10), 5);
            t.save("b.");
            Due.is("an equal one that is saved is that one", t.x.piece(2, 0, 4), 1);
        });
        Edge.of(28, "false, refused (3), when it is so already, or there are none such.", () -> {
            Twins.refused("spoiled already", 3, Twins::rich, t -> t.x.spoil(0, 1) ? 1 : 0, 0);
            Twins.refused("spoiled already as another backup's", 3, Twins::rich, t -> t.x.spoil(2, 0) ? 1 : 0, 0);
            for (int k : new int[] {3, 4, 300, -1, MOST_INT, LEAST_INT}) {
                Twins.refused("piece " + k, 3, Twins::rich, t -> t.x.spoil(0, k) ? 1 : 0, 0);
            }
            for (int b : NO_BACKUPS) {
                Twins.refused("backup " + b, 3, Twins::rich, t -> t.x.spoil(b, 0) ? 1 : 0, 0);
            }
            Twins.refused("without a store", 3, Twins::bare, t -> t.x.spoil(0, 0) ? 1 : 0, 0);
        });
    }

    private static void smashing() {
        Edge.of(29, "A BOX is BROKEN: true", () -> {
            Tried t = Twins.rich();
            Due.is("the first", t.x.smash(0), true);
            Due.is("the last", t.x.smash(2), true);
            for (int box = 0; box < 3; box++) {
                Due.is("box " + box, t.x.box(box, 4), 1);
            }
            Due.is("nothing refused", t.x.status(3), 0);
        });
        Edge.of(29, "false, refused (3), when it is so already, or there is none such.", () -> {
            Twins.refused("broken already", 3, Twins::rich, t -> t.x.smash(1) ? 1 : 0, 0);
            for (int box : new int[] {3, 4, -1, -2, MOST_INT, LEAST_INT}) {
                Twins.refused("box " + box, 3, Twins::rich, t -> t.x.smash(box) ? 1 : 0, 0);
            }
            Twins.refused("without boxes", 3, Twins::quiet, t -> t.x.smash(0) ? 1 : 0, 0);
            Twins.refused("without a store", 3, Twins::bare, t -> t.x.smash(0) ? 1 : 0, 0);
        });
    }

    // ---- acts

    private static void acts() {
        Edge.of(30, "ACTS: SAVES; a BACKUP is forgotten; DAYS, by the seed; CLEANING; a PIECE of a BACKUP is SPOILED; a BOX is BROKEN.", () -> {
            for (int act = 0; act < 8; act++) {
                Tried t = behind(act);
                Tried twin = behind(act);
                Due.is("acts ahead of act " + act, t.x.has(10), act);
                act(t, act);
                Due.is("acts behind act " + act, t.x.has(10), act + 1);
                Due.is("undo of act " + act, t.x.undo(), true);
                t.x.seed(1);
                twin.x.seed(1);
                Twins.showsSame("undo of act " + act, t, twin);
            }
            Tried t = behind(0);
            t.cuts("a.b.", 0);
            t.meet(0, 1);
            t.x.seed(9);
            t.x.end(0);
            Due.is("nothing else is an act", t.x.has(10), 0);
        });
        Edge.of(30, "The last 20 can be undone.", () -> {
            for (int made = 19; made <= 22; made++) {
                Tried t = Tried.with("box 60;");
                for (int i = 0; i < made; i++) {
                    t.x.days(1);
                }
                int can = Math.min(made, ACTS_MOST);
                Due.is("acts behind " + made, t.x.has(10), can);
                for (int i = 1; i <= can; i++) {
                    Due.is("undo " + i + " of " + made, t.x.undo(), true);
                    Due.is("the day", t.x.has(7), made - i);
                    Due.is("left", t.x.has(10), can - i);
                }
                Due.is("one more of " + made, t.x.undo(), false);
                Due.is("the day stays", t.x.has(7), made - can);
                Due.is("refused", t.x.status(4), 1);
                t.x.days(2);
                Due.is("a new one can be", t.x.undo(), true);
                Due.is("the day is that again", t.x.has(7), made - can);
            }
        });
    }

    /** One act of each kind, the second save writing nothing into the first box. */
    private static void act(Tried t, int act) {
        boolean done;
        switch (act) {
            case 0: done = t.save(filled('a', 40)) == 0; break;
            case 1: done = t.save(filled('b', 40) + "c.") == 1; break;
            case 2: done = t.x.spoil(1, 1); break;
            case 3: done = t.x.forget(0); break;
            case 4: done = t.x.days(2) == 0; break;
            case 5: done = t.x.clean() == 1; break;
            case 6: done = t.x.smash(0); break;
            default: done = t.x.chance(3) == 3; break;
        }
        Due.is("act " + act, done, true);
    }

    /** A store on which the acts ahead of that one were done. */
    private static Tried behind(int act) {
        Tried t = Tried.with("box 60;champs 0;rot 100;" + POINTS);
        for (int i = 0; i < act; i++) {
            act(t, i);
        }
        return t;
    }

    private static void undoing() {
        Edge.of(30, "The latest ACT is undone: all is as it was ahead of it (but the seed): true", () -> {
            Tried t = Tried.with("box 60;rot 100;keep 3;" + POINTS);
            t.save("a.");
            t.x.chance(4);
            int seed = t.x.has(11);
            Due.is("undo of days by the seed", t.x.undo(), true);
            Due.is("the day", t.x.has(7), 0);
            Due.is("the backup", t.x.has(1), 1);
            Due.is("the box", t.x.box(0, 4), 0);
            Due.is("but not the seed", t.x.has(11), seed);
            t.x.days(1);
            t.x.seed(6);
            t.x.undo();
            Due.is("nor one that was told", t.x.has(11), 6);
            t.x.undo();
            Due.is("undo of the save: pieces", t.x.has(2), 0);
            Due.is("boxes", t.x.has(4), 0);
            Due.is("hooks", t.x.has(6), 0);
            Due.is("kept", t.x.has(8), 0);
            t.save("b.a.");
            Due.is("written as if nothing had been", t.x.kept(0, 2), 2);
            t = Tried.with("box 60;segs 2;champs 1;" + POINTS);
            t.save("a.b.");
            t.save("c.a.");
            t.x.undo();
            t.save("a.b.");
            Due.is("the index tells the first segment for a. again", t.x.kept(1, 2), 0);
            t = Tried.with("box 60;segs 2;champs 1;clean all;" + POINTS);
            t.save("a.b.");
            t.x.forget(0);
            t.x.clean();
            t.x.undo();
            t.save("b.a.");
            Due.is("cleaned pieces are of their segment again", t.x.kept(1, 2), 0);
            t.x.undo();
            t.x.undo();
            Due.is("the forgotten one is there", t.x.octet(0, 2), 'b');
        });
        Edge.of(30, "all is as it was ahead of it", () -> {
            String store = "box 60;segs 2;champs 2;keep 9;" + POINTS;
            for (int series = 0; series < 6; series++) {
                for (int undone = 0; undone < 8; undone++) {
                    undone(store, series, undone);
                    undone("box 60;segs 4;champs 2;least 1;border byte=46;hook place%2=1;", series, undone);
                }
            }
            Tried t = Tried.with(store);
            t.save("a.");
            t.x.forget(0);
            t.x.days(3);
            t.save("b.");
            t.x.undo();
            t.x.undo();
            t.x.undo();
            Due.is("the day of a backup whose number another one had", t.x.backup(0, 0), 0);
            Due.is("and when it expires", t.x.expires(0), 9);
            t = Tried.with("box 60;least 1;border byte=46;hook place=1;");
            t.save("x.b.");
            t.save("y.b.");
            t.x.undo();
            t.save("q.");
            t.save("z.");
            t.x.undo();
            Due.is("b. alone is told by the index", t.x.has(6), 1);
            t.save("w.z.");
            Due.is("z. was not, ahead of this", t.x.has(6), 2);
        });
        Edge.of(30, "false, refused (4), when none can be.", () -> {
            Twins.refused("without a store", 4, Twins::bare, t -> t.x.undo() ? 1 : 0, 0);
            Twins.refused("without an act", 4, Twins::quiet, t -> t.x.undo() ? 1 : 0, 0);
            Twins.refused("all undone", 4, EdgesOfActs::allUndone, t -> t.x.undo() ? 1 : 0, 0);
            Twins.refused("of the store ahead", 4, EdgesOfActs::storedAgain, t -> t.x.undo() ? 1 : 0, 0);
        });
    }

    /** Three acts behind some others are undone: all is as on a twin on which they never were. */
    private static void undone(String store, int series, int undone) {
        Tried t = Tried.with(store);
        Tried twin = Tried.with(store);
        for (int i = 0; i <= series; i++) {
            step(t, i);
            step(twin, i);
        }
        for (int i = 0; i < 3; i++) {
            step(t, undone + i);
        }
        for (int i = 0; i < 3; i++) {
            Due.is("undo", t.x.undo(), true);
        }
        Twins.liveAlike("acts " + undone + " and so on undone behind act " + series, t, twin);
    }

    /** An act that can be, whatever was ahead of it. */
    private static void step(Tried t, int act) {
        switch (act) {
            case 0: t.save("a.b.c."); break;
            case 1: t.save("b.d.a."); break;
            case 2: t.x.days(1); break;
            case 3: t.save("z".repeat(57) + ".c.d."); break;
            case 4: t.save("e.e.z.d."); break;
            case 5: t.save("c.a.b."); break;
            case 6: t.x.days(2); break;
            case 7: t.save("x.b."); break;
            case 8: t.x.days(3); break;
            default: t.save("b.x.e.a."); break;
        }
    }

    private static Tried allUndone() {
        Tried t = Twins.quietOne();
        t.x.undo();
        return t;
    }

    private static Tried storedAgain() {
        Tried t = Twins.rich();
        t.store("box 60;" + POINTS);
        return t;
    }

    private static void seed() {
        Edge.of(31, "The seed: true", () -> {
            for (int seed : new int[] {0, 1, 2, MOST_INT - 1, MOST_INT}) {
                PieceStore x = new PieceStore();
                Due.is("seed(" + seed + ")", x.seed(seed), true);
                Due.is("it is " + seed, x.has(11), seed);
                Due.is("nothing refused", x.status(5), 0);
                Tried t = Tried.with("box 60;");
                t.x.seed(seed);
                Due.is("with a store it is " + seed, t.x.has(11), seed);
                Due.is("it is no act", t.x.has(10), 0);
            }
        });
        Edge.of(31, "false, refused (5), when it is below 0.", () -> {
            for (int seed : new int[] {-1, -2, LEAST_INT}) {
                Twins.refused("seed(" + seed + ")", 5, Twins::rich, t -> t.x.seed(seed) ? 1 : 0, 0);
                Twins.refused("seed(" + seed + ") without a store", 5, Twins::bare, t -> t.x.seed(seed) ? 1 : 0, 0);
            }
        });
    }

    private static void refusals() {
        Edge.of(33, "How many were refused: 0 feed(), end(); 1 store(); 2 days(), chance(), clean(); 3 cuts(), save(), forget(), spoil(), smash(); 4 undo(); 5 seed(), meet().", () -> {
            Tried t = new Tried();
            int[] counts = new int[6];
            String[][] calls = {{"end"}, {"store"}, {"days", "chance", "clean"}, {"cuts", "save", "forget", "spoil", "smash"}, {"undo"}, {"seed", "meet"}};
            for (int times = 0; times < 2; times++) {
                for (int kind = 0; kind < 6; kind++) {
                    for (String name : calls[kind]) {
                        int[] arguments = new int[Calls.arity(name)];
                        java.util.Arrays.fill(arguments, -9);
                        Calls.on(t.x, name, arguments);
                        counts[kind]++;
                        for (int what = 0; what < 6; what++) {
                            Due.is("status(" + what + ") behind " + name, t.x.status(what), counts[what]);
                        }
                    }
                }
            }
            t.tape(" ".repeat(1600));
            t.x.feed(1, 2, 3, 4, 5);
            Due.is("feed is counted as end is", t.x.status(0), counts[0] + 1);
            t.x.end(0);
            t.store("box 60;");
            t.save("abc");
            Due.is("a new store leaves the counts", t.x.status(3), counts[3]);
            t.x.undo();
            Due.is("so does undo()", t.x.status(3), counts[3]);
        });
        Edge.of(33, "NONE for others.", () -> {
            for (int what : new int[] {6, 7, -1, MOST_INT, LEAST_INT}) {
                Twins.unanswered("status(" + what + ")", Twins::rich, t -> t.x.status(what));
            }
        });
    }
}
