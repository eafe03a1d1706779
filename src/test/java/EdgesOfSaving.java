/** Terms II, SAVING, and the promises 6 to 9, 23 and 32: how many there are, backups, pieces, boxes, saves, what was KEPT. */
final class EdgesOfSaving {
    private static final int MOST_INT = Integer.MAX_VALUE;
    private static final int LEAST_INT = Integer.MIN_VALUE;
    private static final int[] NO_BACKUPS = {1, 3, 11, 12, -1, -2, MOST_INT, LEAST_INT};
    /** Pieces end behind a point. */
    private static final String POINTS = "least 1;most 60;border byte=46;";

    private EdgesOfSaving() {
    }

    static void all() {
        segments();
        hooks();
        champions();
        writing();
        indexAndLive();
        numbers();
        has();
        backupsAndPieces();
        boxes();
        saving();
        kept();
        longLife();
    }

    /** What a file's pieces are written anew, on a store with these files ahead of it. */
    private static int written(String store, String file, String... ahead) {
        return saved(store, file, ahead).x.kept(ahead.length, 2);
    }

    private static Tried saved(String store, String file, String... ahead) {
        Tried t = Tried.with("box 200;" + POINTS + store);
        for (String one : ahead) {
            t.save(one);
        }
        t.save(file);
        return t;
    }

    private static void segments() {
        Edge.of(23, "SEGMENTS are of so many PIECES as segs tells, one behind the other (the last one of what is left).", () -> {
            for (int segs = 1; segs <= 8; segs++) {
                String store = "champs 0;segs " + segs + ";";
                String unlike = "abcdefgh".substring(0, segs).replaceAll(".", "$0.");
                Due.is("the first again ahead of the end of " + segs, written(store, unlike.substring(0, 2 * segs - 2) + "a."), Math.max(1, segs - 1));
                Due.is("the first again behind the end of " + segs, written(store, unlike + "a."), segs + 1);
                Due.is("equal ones within " + segs, written(store, "a.".repeat(segs)), 1);
                Due.is("one more is of the next, " + segs, written(store, "a.".repeat(segs + 1)), 2);
                Due.is("two segments of " + segs, written(store, "a.".repeat(2 * segs)), 2);
                Due.is("the third begins, " + segs, written(store, "a.".repeat(2 * segs + 1)), 3);
            }
        });
    }

    private static void hooks() {
        Edge.of(23, "its HOOKS are those PIECES for which the TEST of hook holds (without it: print % 2 = 0).", () -> {
            Due.is("all", saved("hook all;", "a.b.c.").x.has(6), 3);
            Due.is("none", saved("hook not all;", "a.b.c.").x.has(6), 0);
            Due.is("none are found by none", written("hook not all;", "a.", "a."), 1);
            Due.is("by its place", saved("hook place=1;", "a.b.c.").x.has(6), 1);
            for (String piece : new String[] {"a.", "b.", "c.", "aa.", "ab.", "ac."}) {
                Tried t = saved("", piece);
                Due.is("without a test, " + piece, t.x.has(6), t.x.piece(0, 0, 1) % 2 == 0 ? 1 : 0);
            }
            Due.is("even ones and others are among them", saved("", "a.").x.has(6) + saved("", "b.").x.has(6), 1);
            Due.is("of like ones one is a hook, the other not", written("segs 2;hook place=1;", "c.a.", "a.b.", "a.a."), 1);
        });
    }

    private static void champions() {
        Edge.of(23, "CHAMPIONS are found one by one, as many as champs tells at most", () -> {
            for (int champs = 0; champs <= 4; champs++) {
                Tried t = saved("segs 6;hook all;champs " + champs + ";", "a.b.c.d.e.f.", "a.", "b.", "c.", "d.", "e.");
                Due.is("written with " + champs, t.x.kept(5, 2), 6 - champs);
                for (int k = 0; k < 5; k++) {
                    Due.is("the latest ones are champions, " + k, t.x.piece(5, k, 3) < 5, k >= 5 - champs);
                }
            }
            Due.is("one of two", written("segs 2;hook all;champs 1;", "a.b.", "a.", "b."), 1);
            Due.is("two of two", written("segs 2;hook all;champs 2;", "a.b.", "a.", "b."), 0);
        });
        Edge.of(23, "that SEGMENT which the INDEX tells for most of its unlike HOOKS", () -> {
            Tried t = saved("segs 4;hook all;champs 1;", "a.b.y.", "a.b.", "y.z.");
            Due.is("two hooks of the earlier one beat one of the later", t.x.kept(2, 2), 1);
            Due.is("so y. is written", t.x.piece(2, 2, 3), 4);
            t = saved("segs 4;hook all;champs 1;", "a.y.y.y.", "a.", "y.");
            Due.is("like hooks are one: the later segment", t.x.piece(2, 1, 3), 1);
            Due.is("a. is written", t.x.piece(2, 0, 3), 2);
            t = saved("segs 5;hook all;champs 1;", "a.b.y.y.y.", "a.b.", "y.z.");
            Due.is("two unlike ones are more than three like ones", t.x.piece(2, 0, 3), 0);
            Due.is("y. is written once", t.x.kept(2, 2), 1);
            t = saved("segs 3;hook length=2;champs 1;", "a.qq.", "qq.", "a.");
            Due.is("what is no hook finds nothing", t.x.piece(2, 1, 3), 2);
        });
        Edge.of(23, "not counting those for which it tells a CHAMPION already", () -> {
            Tried t = saved("segs 6;hook all;champs 2;", "a.b.c.d.e.f.", "a.b.c.", "d.e.", "f.");
            Due.is("the second one is another", t.x.kept(3, 2), 1);
            Due.is("d. was had", t.x.piece(3, 3, 3), 3);
            Due.is("f. is written", t.x.piece(3, 5, 3), 6);
        });
        Edge.of(23, "of like ones the latest saved; none, if it tells none for any that is left.", () -> {
            Tried t = saved("segs 4;hook all;champs 1;", "a.b.", "a.x.", "b.y.");
            Due.is("a. is of the earlier one: written", t.x.piece(2, 0, 3), 4);
            Due.is("b. is of the later one: had", t.x.piece(2, 1, 3), 2);
            t = saved("segs 2;hook all;champs 1;", "c.a.", "a.b.c.d.");
            Due.is("of one file's the later segment", t.x.piece(1, 0, 3), 2);
            Due.is("and not the earlier", t.x.piece(1, 1, 3), 4);
            Due.is("the index tells none", written("segs 4;hook all;champs 4;", "x.y.", "a.b."), 2);
            Due.is("none for the second champion", written("segs 4;hook all;champs 4;", "a.x.y.", "a.b."), 2);
            Due.is("no segment at all", written("segs 4;hook all;champs 4;", "x.y."), 2);
        });
    }

    private static void writing() {
        Edge.of(23, "if an EQUAL one is of a CHAMPION (of the first one, in it the first)", () -> {
            Tried t = saved("segs 4;champs 2;hook length=2;", "c.a.qq.b.", "a.b.qq.", "c.qq.");
            Due.is("qq. of the champion with two hooks", t.x.piece(2, 2, 3), 2);
            t = saved("segs 4;champs 2;hook length=2;", "qq.a.c.", "a.qq.", "c.qq.");
            Due.is("qq. of the later one of two like champions, ahead of its hook, too", t.x.piece(2, 0, 3), 3);
            t = saved("segs 4;champs 1;hook length=2;", "qq.a.zz.", "a.zz.qq.");
            Due.is("the last of a champion", t.x.piece(1, 0, 3), 2);
            Due.is("the middle of it", t.x.piece(1, 2, 3), 1);
        });
        Edge.of(23, "or was had ahead in this SEGMENT, it is that STORED PIECE (a CHAMPION's ahead)", () -> {
            Tried t = saved("segs 4;champs 0;", "a.b.a.b.");
            Due.is("the third is the first", t.x.piece(0, 2, 3), 0);
            Due.is("the fourth is the second", t.x.piece(0, 3, 3), 1);
            t = saved("segs 2;champs 0;", "a.b.a.b.");
            Due.is("not one of the segment ahead", t.x.piece(0, 2, 3), 2);
            t = saved("segs 2;champs 1;hook all;", "a.b.a.b.");
            Due.is("but as a champion's", t.x.piece(0, 2, 3), 0);
            t = saved("segs 4;champs 1;hook length=2;", "qq.a.qq.a.", "qq.", "a.qq.");
            Due.is("a champion's and not the first one written", t.x.piece(2, 0, 3), 2);
            Due.is("each time", t.x.piece(2, 2, 3), 2);
        });
        Edge.of(23, "else it is WRITTEN: a new STORED PIECE, behind all in the last BOX, if box tells enough for all in it then", () -> {
            for (int box : new int[] {60, 61, 200}) {
                Tried t = Tried.with("box " + box + ";champs 0;" + POINTS);
                fill(t, box - 2);
                t.save("a.");
                Due.is("just enough, box " + box, t.x.has(4), 1);
                int last = t.x.has(4) - 1;
                Due.is("it is behind all", t.x.piece(lastOf(t), 0, 2), last);
                Due.is("at its end", t.x.piece(lastOf(t), 0, 3), t.x.box(last, 1) - 1);
            }
            Tried t = Tried.with("box 60;champs 0;" + POINTS);
            t.save("a".repeat(57) + ".");
            t.save("b.");
            Due.is("58 and 2 are 60: one box", t.x.has(4), 1);
            Due.is("behind it", t.x.piece(1, 0, 3), 1);
            Due.is("it is full", t.x.box(0, 0), 60);
        });
        Edge.of(23, "else in a new BOX behind all.", () -> {
            Tried t = Tried.with("box 60;champs 0;" + POINTS);
            t.save("a".repeat(57) + ".");
            t.x.days(3);
            t.save("bb.");
            Due.is("58 and 3 are 61: two boxes", t.x.has(4), 2);
            Due.is("the second one", t.x.piece(1, 0, 2), 1);
            Due.is("its first place", t.x.piece(1, 0, 3), 0);
            Due.is("it is new", t.x.box(1, 3), 0);
            t.save("c.");
            Due.is("2 would go into the first, but the last counts", t.x.piece(2, 0, 2), 1);
            t.save("d".repeat(59) + ".");
            Due.is("a piece of 60 fills one", t.x.box(2, 0), 60);
            t.save("e");
            Due.is("a full one takes none", t.x.piece(4, 0, 2), 3);
            t.x.smash(3);
            t.save("f");
            Due.is("a broken one is the last one, too", t.x.piece(5, 0, 2), 3);
        });
    }

    /** Fills the boxes up with pieces of at most 60 bytes until the last one has that many bytes. */
    private static void fill(Tried t, int bytes) {
        int left = bytes;
        while (left > 0) {
            int piece = Math.min(left, 60);
            t.save("x".repeat(piece - 1) + ".");
            left -= piece;
        }
    }

    private static int lastOf(Tried t) {
        return t.x.has(1) - 1;
    }

    private static void indexAndLive() {
        Edge.of(23, "Then the INDEX tells this SEGMENT for each of its HOOKS (by their bytes, and goes on so, whatever becomes of the STORED PIECE).", () -> {
            Tried t = saved("segs 2;champs 1;hook all;clean all;", "c.a.", "a.b.");
            Due.is("three unlike hooks", t.x.has(6), 3);
            t.save("a.b.");
            Due.is("a. is told by the later segment, b. by the earlier: the later one", t.x.kept(2, 2), 1);
            Due.is("a. is that of the first save", t.x.piece(2, 0, 3), 0);
            t.x.forget(0);
            t.x.forget(1);
            t.x.forget(2);
            Due.is("hooks of what is not live", t.x.has(6), 3);
            t.x.clean();
            Due.is("no piece is left", t.x.has(2), 0);
            Due.is("hooks of what is no more", t.x.has(6), 3);
            t.x.smash(0);
            t.save("a.b.");
            Due.is("written anew, though the index tells a segment", t.x.kept(3, 2), 2);
            Due.is("still three", t.x.has(6), 3);
            t = saved("segs 2;champs 4;hook all;", "a.a.b.b.");
            Due.is("a segment is not told for its own pieces ahead of its end", t.x.has(2), 2);
        });
        Edge.of(6, "A STORED PIECE is LIVE, if a BACKUP has it.", () -> {
            Tried t = saved("segs 4;champs 2;hook all;", "b.c.", "a.b.");
            Due.is("three", t.x.has(3), 3);
            t.x.forget(0);
            Due.is("a. is of none", t.x.has(3), 2);
            Due.is("it is stored", t.x.has(2), 3);
            t.x.forget(1);
            Due.is("none", t.x.has(3), 0);
            t.save("a.b.");
            Due.is("saved again they live again", t.x.has(3), 2);
            Due.is("and are those", t.x.has(2), 3);
            t = Tried.with("box 60;keep 1;clean dead>0;" + POINTS);
            t.save("a.");
            Due.is("live now, though it expires with the next day", t.x.has(3), 1);
            Due.is("in its box, too", t.x.box(0, 2), 1);
            Due.is("by the test of clean, too", t.x.box(0, 5), 0);
            Due.is("for what cleaning frees, too", t.x.gain(0), 0);
            Due.is("for cleaning, too", t.x.clean(), PieceStore.NONE);
        });
        Edge.of(23, "One that is no more is of no SEGMENT.", () -> {
            Tried t = saved("segs 3;champs 1;hook all;clean all;", "b.", "a.b.c.");
            t.x.forget(0);
            t.x.clean();
            Due.is("b. alone is left", t.x.has(2), 1);
            t.save("a.b.c.");
            Due.is("a. and c. are written", t.x.kept(2, 2), 2);
            Due.is("b. is that of the segment", t.x.piece(0, 1, 3), 0);
        });
    }

    private static void numbers() {
        Edge.of(23, "A BACKUP has its PIECES, the DAY, its number: the least of 0 .. 11 that is free.", () -> {
            Tried t = Tried.with("box 60;" + POINTS);
            t.x.days(7);
            for (int b = 0; b <= 11; b++) {
                Due.is("save " + b, t.save((char) ('a' + b) + "."), b);
            }
            Due.is("none is free", t.save("z."), PieceStore.NONE);
            t.x.forget(11);
            Due.is("the last alone", t.save("y."), 11);
            t.x.forget(5);
            t.x.forget(0);
            t.x.forget(9);
            t.x.days(1);
            Due.is("the least", t.save("A."), 0);
            Due.is("the next", t.save("B."), 5);
            Due.is("the last", t.save("C."), 9);
            Due.is("its pieces", t.x.octet(5, 0), 'B');
            Due.is("its day", t.x.backup(5, 0), 8);
            Due.is("that of another", t.x.backup(6, 0), 7);
        });
    }

    private static void has() {
        Edge.of(6, "How many there are: 0 bytes that a BOX can have, 1 BACKUPS, 2 STORED PIECES, 3 LIVE ones, 4 BOXES, 5 bytes in all BOXES", () -> {
            for (int box = 60; box <= 200; box += 140) {
                Due.is("0", Tried.with("box " + box + ";").x.has(0), box);
            }
            Tried t = Tried.with("box 60;champs 0;" + POINTS);
            for (int b = 1; b <= 12; b++) {
                t.save("x".repeat(29) + ".");
                Due.is("1 behind save " + b, t.x.has(1), b);
                Due.is("2", t.x.has(2), b);
                Due.is("3", t.x.has(3), b);
                Due.is("4", t.x.has(4), (b + 1) / 2);
                Due.is("5", t.x.has(5), 30 * b);
            }
            t.x.forget(11);
            Due.is("1 without one", t.x.has(1), 11);
            Due.is("2 stays", t.x.has(2), 12);
            Due.is("3 without its piece", t.x.has(3), 11);
            Due.is("4 stays", t.x.has(4), 6);
            Due.is("5 stays", t.x.has(5), 360);
        });
        Edge.of(6, "6 unlike HOOKS for which the INDEX tells a SEGMENT, 7 DAY, 8 told as KEPT, 9 rows MET, 10 ACTS that can be undone, 11 the seed.", () -> {
            Tried t = Tried.with("box 60;hook length=2;" + POINTS);
            t.save("a.b.a.cc.");
            Due.is("6", t.x.has(6), 2);
            t.save("a.d.");
            Due.is("6 with one more", t.x.has(6), 3);
            Due.is("7", t.x.has(7), 0);
            t.x.days(40);
            Due.is("7 behind 40 days", t.x.has(7), 40);
            Due.is("8", t.x.has(8), 2);
            Due.is("9", t.x.has(9), 0);
            t.meet(0, 1, 2, 3, 4, 5);
            Due.is("9 behind three rows", t.x.has(9), 3);
            Due.is("10", t.x.has(10), 3);
            Due.is("11", t.x.has(11), 1);
            t.x.seed(MOST_INT);
            Due.is("11 as told", t.x.has(11), MOST_INT);
        });
        Edge.of(6, "Without a store all but the last are 0. NONE for others.", () -> {
            Tried t = Twins.bare();
            t.x.feed(1, 2, 3, 4, 5);
            for (int what = 0; what <= 10; what++) {
                Due.is("has(" + what + ") without a store", t.x.has(what), 0);
            }
            Due.is("has(11) without a store", t.x.has(11), 77);
            for (int what : new int[] {12, 13, -1, MOST_INT, LEAST_INT}) {
                Twins.unanswered("has(" + what + ")", Twins::rich, y -> y.x.has(what));
                Twins.unanswered("has(" + what + ") without a store", Twins::bare, y -> y.x.has(what));
            }
        });
    }

    private static void backupsAndPieces() {
        Edge.of(7, "Of a BACKUP: 0 its DAY, 1 how many bytes, 2 how many PIECES.", () -> {
            Tried t = Tried.with("box 60;" + POINTS);
            t.save("a");
            t.x.days(4);
            t.save("ab..ab.x");
            t.x.days(1);
            int[][] want = {{0, 1, 1}, {4, 8, 4}};
            for (int what = 0; what < 3; what++) {
                Due.is("backup(0, " + what + ")", t.x.backup(0, what), want[0][what]);
                Due.is("backup(1, " + what + ")", t.x.backup(1, what), want[1][what]);
            }
        });
        Edge.of(7, "NONE when there is none such, or for others.", () -> {
            for (int b : NO_BACKUPS) {
                Twins.unanswered("backup(" + b + ", 0)", Twins::rich, t -> t.x.backup(b, 0));
            }
            for (int what : new int[] {3, -1, MOST_INT, LEAST_INT}) {
                Twins.unanswered("backup(0, " + what + ")", Twins::rich, t -> t.x.backup(0, what));
            }
            Tried all = Tried.with("box 60;" + POINTS);
            for (int b = 0; b < 12; b++) {
                all.save("a.");
            }
            Due.is("backup(11, 2)", all.x.backup(11, 2), 1);
            Due.is("backup(12, 2)", all.x.backup(12, 2), PieceStore.NONE);
        });
        Edge.of(8, "Of the k-th PIECE of a BACKUP: 0 how many bytes, 1 its PRINT, 2 its BOX, 3 its place in that (from 0 on), 4 whether SPOILED.", () -> {
            Tried t = Tried.with("box 60;segs 8;" + POINTS);
            t.save("ab." + "x".repeat(58) + "." + "." + "ab.");
            t.x.spoil(0, 2);
            int[][] want = {{3, 44291, 0, 0, 0}, {59, 0, 1, 0, 0}, {1, 1800 + '.', 1, 1, 1}, {3, 44291, 0, 0, 0}};
            for (int k = 0; k < 4; k++) {
                for (int what = 0; what < 5; what++) {
                    if (k != 1 || what != 1) {
                        Due.is("piece(0, " + k + ", " + what + ")", t.x.piece(0, k, what), want[k][what]);
                    }
                }
            }
        });
        Edge.of(8, "NONE when there are none such, or for others.", () -> {
            for (int b : NO_BACKUPS) {
                Twins.unanswered("piece(" + b + ", 0, 0)", Twins::rich, t -> t.x.piece(b, 0, 0));
            }
            for (int k : new int[] {3, 4, 300, -1, MOST_INT, LEAST_INT}) {
                Twins.unanswered("piece(0, " + k + ", 0)", Twins::rich, t -> t.x.piece(0, k, 0));
            }
            for (int what : new int[] {5, -1, MOST_INT, LEAST_INT}) {
                Twins.unanswered("piece(0, 0, " + what + ")", Twins::rich, t -> t.x.piece(0, 0, what));
            }
            Tried t = Tried.with("box 200;least 1;border all;");
            t.save("a".repeat(300));
            Due.is("piece 299", t.x.piece(0, 299, 0), 1);
            Due.is("piece 300", t.x.piece(0, 300, 0), PieceStore.NONE);
        });
    }

    private static void boxes() {
        Edge.of(9, "Of a BOX (from 0 on, in their order): 0 bytes in it, 1 STORED PIECES, 2 LIVE ones, 3 for how many DAYS it has been there", () -> {
            Tried t = Tried.with("box 60;segs 8;hook all;" + POINTS);
            t.save("a.bb.");
            t.save("x".repeat(57) + ".");
            t.x.days(40);
            t.save("bb.ccc.");
            t.x.forget(0);
            t.x.days(1);
            int[][] want = {{5, 2, 1, 41}, {58, 1, 1, 41}, {4, 1, 1, 1}};
            for (int box = 0; box < 3; box++) {
                for (int what = 0; what < 4; what++) {
                    Due.is("box(" + box + ", " + what + ")", t.x.box(box, what), want[box][what]);
                }
            }
        });
        Edge.of(9, "4 whether BROKEN, 5 whether the TEST of clean holds now.", () -> {
            Tried t = Tried.with("box 60;champs 0;" + POINTS);
            t.save("aa.");
            t.save("bb.");
            t.save("c.");
            t.x.forget(0);
            Due.is("3 of 8 are dead", t.x.box(0, 5), 0);
            t.x.forget(1);
            Due.is("6 of 8 are dead", t.x.box(0, 5), 1);
            Due.is("not broken", t.x.box(0, 4), 0);
            t.x.smash(0);
            Due.is("broken", t.x.box(0, 4), 1);
            Due.is("the test holds of a broken one, too", t.x.box(0, 5), 1);
            t = Tried.with("box 60;clean age=2;" + POINTS);
            t.save("a.");
            for (int day = 0; day <= 3; day++) {
                Due.is("now, on day " + day, t.x.box(0, 5), day == 2 ? 1 : 0);
                t.x.days(1);
            }
        });
        Edge.of(9, "NONE when there is none such, or for others.", () -> {
            for (int box : new int[] {3, 4, -1, -2, MOST_INT, LEAST_INT}) {
                for (int what = 0; what <= 5; what += 5) {
                    int told = what;
                    Twins.unanswered("box(" + box + ", " + what + ")", Twins::rich, t -> t.x.box(box, told));
                }
            }
            for (int what : new int[] {6, -1, MOST_INT, LEAST_INT}) {
                Twins.unanswered("box(0, " + what + ")", Twins::rich, t -> t.x.box(0, what));
            }
            Due.is("box(0, 0) of a store without boxes", Twins.quiet().x.box(0, 0), PieceStore.NONE);
            Due.is("the last one", Twins.rich().x.box(2, 0), 58);
        });
    }

    private static void saving() {
        Edge.of(23, "The tape (it goes) is a FILE that is SAVED: the number of its BACKUP", () -> {
            Tried t = Twins.quiet();
            Due.is("the first", t.save("a.b."), 0);
            Due.is("the tape is empty", t.x.end(1), false);
            Due.is("nothing on the tape is no file", t.x.save(), PieceStore.NONE);
            Due.is("the second", t.save("c"), 1);
            Due.is("nothing refused but that", t.x.status(3), 1);
        });
        Edge.of(23, "NONE, refused (3), without a store, when it is no FILE, there are 12 BACKUPS", () -> {
            Twins.refused("without a store", 3, Twins::bare, t -> t.save("abc"), PieceStore.NONE);
            Twins.refused("no bytes", 3, Twins::rich, t -> t.save(""), PieceStore.NONE);
            Twins.refused("401 bytes", 3, Twins::rich, t -> t.save("a".repeat(401)), PieceStore.NONE);
            Due.is("11 backups and one more", backups(11).save("a.b."), 11);
            Twins.refused("12 backups", 3, () -> backups(12), t -> t.save("a.b."), PieceStore.NONE);
        });
        Edge.of(23, "or there would be more than 300 STORED PIECES (as many as it has being new).", () -> {
            Due.is("300 pieces", stored(0).save("a".repeat(300)), 0);
            Due.is("299 and one", stored(299).save("b"), 1);
            Due.is("200 and 100", stored(200).save("ab".repeat(50)), 1);
            Due.is("though no more than 300 are stored then", stored(299).x.has(2), 299);
            Twins.refused("301 pieces", 3, () -> stored(0), t -> t.save("a".repeat(301)), PieceStore.NONE);
            Twins.refused("300 and one", 3, () -> stored(300), t -> t.save("b"), PieceStore.NONE);
            Twins.refused("299 and two", 3, () -> stored(299), t -> t.save("bc"), PieceStore.NONE);
            Twins.refused("200 and 101", 3, () -> stored(200), t -> t.save("b".repeat(101)), PieceStore.NONE);
            Twins.refused("300 and one that is stored already", 3, () -> stored(300), t -> t.save("a"), PieceStore.NONE);
            Tried t = Tried.with("box 60;least 1;border all;segs 8;hook all;");
            t.save("a");
            Due.is("299 like ones", t.save("a".repeat(299)), 1);
            Due.is("one is stored", t.x.has(2), 1);
            Due.is("300 like ones would be 301, all being new", t.save("a".repeat(300)), PieceStore.NONE);
        });
    }

    private static Tried backups(int many) {
        Tried t = Tried.with("box 60;" + POINTS);
        for (int b = 0; b < many; b++) {
            t.save("a." + (char) ('b' + b) + ".");
        }
        return t;
    }

    /** A backup of so many stored pieces of a byte each. */
    private static Tried stored(int many) {
        Tried t = Tried.with("box 200;least 1;border all;segs 1;champs 0;hook not all;");
        if (many > 0) {
            t.save("a".repeat(many));
        }
        return t;
    }

    private static void kept() {
        Edge.of(32, "KEPT is each SAVE: DAY, how many PIECES, how many were WRITTEN (the last 40 are told).", () -> {
            Tried t = Tried.with("box 200;segs 8;hook all;" + POINTS);
            for (int n = 1; n <= 42; n++) {
                t.save("a.".repeat(n % 5 + 1));
                t.x.forget(0);
                Due.is("told behind save " + n, t.x.has(8), Math.min(n, 40));
                Due.is("the last one", t.x.kept(Math.min(n, 40) - 1, 1), n % 5 + 1);
                Due.is("none behind it", t.x.kept(Math.min(n, 40), 1), PieceStore.NONE);
                Due.is("none ahead of the oldest", t.x.kept(-1, 1), PieceStore.NONE);
                int oldest = n <= 40 ? 1 : n - 39;
                Due.is("the oldest one", t.x.kept(0, 1), oldest % 5 + 1);
                Due.is("written by the oldest one", t.x.kept(0, 2), oldest == 1 ? 1 : 0);
            }
            t.x.undo();
            t.x.undo();
            t.x.undo();
            t.x.undo();
            Due.is("two saves undone: 40 are left", t.x.has(8), 40);
            Due.is("the first is told again", t.x.kept(0, 2), 1);
            Due.is("cutting is no save", t.cuts("a.", 0), 2);
            Due.is("nor is what is refused", t.save(""), PieceStore.NONE);
            Due.is("so nothing is told of them", t.x.kept(0, 2), 1);
        });
        Edge.of(32, "Of what is told as KEPT, the k-th from the oldest on: 0 DAY, 1 PIECES, 2 WRITTEN.", () -> {
            Tried t = Tried.with("box 200;segs 8;hook all;" + POINTS);
            t.save("a.b.a.");
            t.x.days(3);
            t.save("a.");
            t.x.forget(0);
            int[][] want = {{0, 3, 2}, {3, 1, 0}};
            for (int what = 0; what < 3; what++) {
                Due.is("kept(0, " + what + ")", t.x.kept(0, what), want[0][what]);
                Due.is("kept(1, " + what + ")", t.x.kept(1, what), want[1][what]);
            }
        });
        Edge.of(32, "NONE when there is none such, or for others.", () -> {
            for (int k : new int[] {3, 39, 40, -1, MOST_INT, LEAST_INT}) {
                Twins.unanswered("kept(" + k + ", 0)", Twins::rich, t -> t.x.kept(k, 0));
            }
            for (int what : new int[] {3, -1, MOST_INT, LEAST_INT}) {
                Twins.unanswered("kept(0, " + what + ")", Twins::rich, t -> t.x.kept(0, what));
            }
        });
    }

    private static void longLife() {
        Edge.of(23, "An object is used for at most 512 calls after it has been made", () -> {
            Tried t = new Tried();
            t.tape("box 200;least 1;hook all;border all;");
            t.x.store();
            int calls = 4;
            int saves = 0;
            while (calls + 4 <= 508) {
                t.x.feed(saves, -saves, 7 * saves, 31 * saves, saves << 20);
                Due.is("save " + saves, t.x.save(), 0);
                Due.is("forget " + saves, t.x.forget(0), true);
                Due.is("clean " + saves, t.x.clean(), 1);
                calls += 4;
                saves++;
            }
            t.x.feed(1, 2, 3, 4, 5);
            Due.is("save by call 510", t.x.save(), 0);
            Due.is("pieces by call 511", t.x.backup(0, 2), 20);
            Due.is("the last byte by call 512", t.x.octet(0, 19), 5);
        });
    }
}
