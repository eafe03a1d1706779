/** Terms II, FILES, CUTTING, PRINTS, and the promises 10 to 13: bytes read back, cuts, what is shared, edits. */
final class EdgesOfCutting {
    private static final int MOST_INT = Integer.MAX_VALUE;
    private static final int LEAST_INT = Integer.MIN_VALUE;
    private static final String POINTS = "least 1;most 60;border byte=46;hook all;";

    private EdgesOfCutting() {
    }

    static void all() {
        files();
        rollingSum();
        ends();
        equalsAndPrints();
        octets();
        cuts();
        shared();
        edits();
    }

    private static String bytes(int... all) {
        StringBuilder s = new StringBuilder();
        for (int b : all) {
            s.append((char) b);
        }
        return s.toString();
    }

    private static void files() {
        Edge.of(11, "A FILE are 1 to 400 bytes.", () -> {
            Tried t = Tried.with("box 60;");
            Due.is("cuts of 0 bytes", t.cuts("", PieceStore.NONE), PieceStore.NONE);
            Due.is("cuts of 1 byte", t.cuts("a", PieceStore.NONE), 1);
            Due.is("cuts of 400 bytes", t.cuts("a".repeat(400), PieceStore.NONE) > 0, true);
            Due.is("cuts of 401 bytes", t.cuts("a".repeat(401), PieceStore.NONE), PieceStore.NONE);
            Due.is("cuts of 1600 bytes", t.cuts("a".repeat(1600), PieceStore.NONE), PieceStore.NONE);
            Due.is("save of 0 bytes", t.save(""), PieceStore.NONE);
            Due.is("save of 1 byte", t.save("a"), 0);
            Due.is("save of 400 bytes", t.save("a".repeat(400)), 1);
            Due.is("save of 401 bytes", t.save("a".repeat(401)), PieceStore.NONE);
            Due.is("1 byte", t.x.backup(0, 1), 1);
            Due.is("400 bytes", t.x.backup(1, 1), 400);
        });
    }

    /** How many bytes the first piece has by a window, when it ends where the sum is that. */
    private static int endsAt(int window, int sum, String file) {
        return Tried.with("box 60;least 1;most 60;window " + window + ";border sum=" + sum + ";").cuts(file, 0);
    }

    private static void rollingSum() {
        Edge.of(11, "the last bytes of the FILE up to it, as many as window tells (fewer at its beginning)", () -> {
            Due.is("one byte of 16", endsAt(16, 'a', "abc"), 1);
            Due.is("two bytes of 16", endsAt(16, ('a' * 31 + 'b') % 1009, "abc"), 2);
            Due.is("three bytes of 16", endsAt(16, ('a' * 31 * 31 + 'b' * 31 + 'c') % 1009, "abcd"), 3);
            Due.is("the third by a window of 2", endsAt(2, ('b' * 31 + 'c') % 1009, "abcd"), 3);
            Due.is("the third by a window of 1", endsAt(1, 'c', "abcd"), 3);
            int sixteen = 0;
            for (int i = 0; i < 16; i++) {
                sixteen = (31 * sixteen + (i == 0 ? 'z' : 'a')) % 1009;
            }
            Due.is("the 16th back counts by 16", endsAt(16, sixteen, "z" + "a".repeat(30)), 16);
            Due.is("and not by 15", endsAt(15, sixteen, "z" + "a".repeat(30)), 31);
            Due.is("the 17th back does not count by 16", endsAt(16, sixteen, "yz" + "a".repeat(30)), 17);
            Due.is("it goes on over the end of a piece", Tried.with("box 60;window 2;least 1;border sum=" + ('a' * 31 + 'b') % 1009 + " or byte=97;")
                .cuts("ab..", 1), 1);
        });
        Edge.of(11, "each times 31 to the how manieth it is back (0 for itself), all together modulo 1009.", () -> {
            Due.is("32 * 31 + 16 is 1008", endsAt(2, 1008, bytes(32, 16, 1)), 2);
            Due.is("32 * 31 + 17 is 0", endsAt(2, 0, bytes(32, 17, 1)), 2);
            Due.is("32 * 31 + 18 is 1", endsAt(2, 1, bytes(32, 18, 9)), 2);
            Due.is("never 1009", endsAt(2, 1009, bytes(32, 17, 1)), 3);
            Due.is("zeros are 0", endsAt(16, 0, bytes(0, 0, 1)), 1);
            Due.is("255 * 31 + 255", endsAt(2, 255 * 32 % 1009, bytes(255, 255, 1)), 2);
        });
    }

    private static void ends() {
        Edge.of(11, "a PIECE ends behind a byte, if it has as many bytes as least tells, or more, and the TEST of border holds", () -> {
            for (int least = 2; least <= 30; least += 14) {
                Tried t = Tried.with("box 60;most 60;border byte=46;least " + least + ";");
                Due.is("at least - 1 it goes on", t.cuts("a".repeat(least - 2) + ".a.a", 0), least + 1);
                Due.is("at least it ends", t.cuts("a".repeat(least - 1) + ".a.a", 0), least);
                Due.is("at least + 1 it ends", t.cuts("a".repeat(least) + ".a.a", 0), least + 1);
                Due.is("each piece begins anew", t.cuts("a".repeat(least - 1) + ".." + "a".repeat(least - 2) + "." + "a", 1), least);
            }
        });
        Edge.of(11, "(without it: sum % if(length < normal, 8, 3) = 0)", () -> {
            for (int normal : new int[] {7, 8}) {
                Tried t = Tried.with("box 60;window 1;least 1;most 60;" + (normal == 8 ? "" : "normal 7;"));
                Due.is("8 below normal", t.cuts(ones(normal - 2) + "\u0008" + ones(9), 0), normal - 1);
                Due.is("8 at normal", t.cuts(ones(normal - 1) + "\u0008" + ones(9), 0), normal + 9);
                Due.is("3 below normal", t.cuts(ones(normal - 2) + "\u0003" + ones(9), 0), normal + 8);
                Due.is("3 at normal", t.cuts(ones(normal - 1) + "\u0003" + ones(9), 0), normal);
                Due.is("0 below normal", t.cuts("\u0000" + ones(9), 0), 1);
                Due.is("0 above normal", t.cuts(ones(normal + 5) + "\u0000" + ones(9), 0), normal + 6);
            }
        });
        Edge.of(11, "or it has as many as most tells, or the FILE ends.", () -> {
            for (int most = 30; most <= 60; most += 15) {
                Tried t = Tried.with("box 60;border not all;most " + most + ";");
                Due.is("one less is one piece", t.cuts("a".repeat(most - 1), PieceStore.NONE), 1);
                Due.is("so many are one piece", t.cuts("a".repeat(most), PieceStore.NONE), 1);
                Due.is("one more are two", t.cuts("a".repeat(most + 1), PieceStore.NONE), 2);
                Due.is("the first of them", t.cuts("a".repeat(most + 1), 0), most);
                Due.is("the file ends behind one byte", t.cuts("a".repeat(most + 1), 1), 1);
                Due.is("least does not keep it", Tried.with("box 60;least 30;border not all;").cuts("a".repeat(31), 1), 1);
            }
        });
    }

    private static String ones(int n) {
        return "\u0001".repeat(n);
    }

    private static int print(String piece) {
        int c = 7;
        for (int i = 0; i < piece.length(); i++) {
            c = (257 * c + piece.charAt(i) + 1) % 65521;
        }
        return c;
    }

    /** Three bytes that have the print, which the last of them comes to by wrapping. */
    private static String withPrint(int wanted) {
        for (int i = 0; i < 256 * 256 * 256; i++) {
            String piece = bytes(i >> 16, i >> 8 & 255, i & 255);
            if (print(piece) == wanted) {
                return piece;
            }
        }
        throw new IllegalStateException("no piece has the print " + wanted);
    }

    private static void equalsAndPrints() {
        Edge.of(8, "THE PRINT of a PIECE: c = 7; by each byte c becomes (257 c + it + 1) mod 65521.", () -> {
            Tried t = Tried.with("box 60;least 3;border length=3;");
            String file = withPrint(65520) + withPrint(0) + withPrint(1);
            t.save(file);
            Due.is("the highest", t.x.piece(0, 0, 1), 65520);
            Due.is("0 behind it", t.x.piece(0, 1, 1), 0);
            Due.is("1", t.x.piece(0, 2, 1), 1);
            t.save(bytes(0));
            t.save(bytes(255));
            t.save(bytes(0, 0));
            t.save("\u00ff".repeat(30));
            Due.is("of a 0", t.x.piece(1, 0, 1), 257 * 7 + 1);
            Due.is("of a 255", t.x.piece(2, 0, 1), 257 * 7 + 256);
            Due.is("of two 0", t.x.piece(3, 0, 1), 257 * 1800 + 1 - 7 * 65521);
            Due.is("of 255, 255, 255", t.x.piece(4, 0, 1), print("\u00ff\u00ff\u00ff"));
        });
        Edge.of(8, "PIECES are EQUAL, if they have the same bytes.", () -> {
            Due.is("other bytes with the same print", print("Add"), print("BbV"));
            Tried t = Tried.with("box 60;segs 8;least 3;border length=3;hook all;");
            t.save("AddBbVAddBbV");
            Due.is("are not equal", t.x.has(2), 2);
            Due.is("nor as hooks", t.x.has(6), 2);
            Due.is("the third is the first", t.x.piece(0, 2, 3), 0);
            Due.is("the fourth is the second", t.x.piece(0, 3, 3), 1);
            Due.is("the last byte", t.x.octet(0, 11), 'V');
            t.save("BbV");
            Due.is("it is the second", t.x.piece(1, 0, 3), 1);
            t.store("box 60;segs 8;least 3;border length=3;hook all;");
            t.save("abcAddBbVAdd");
            Due.is("nor on a store behind another", t.x.has(2), 3);
            t.store("box 60;segs 8;least 3;border length=3;hook all;");
            t.save("BbV");
            t.save("BbV");
            t.save("Add");
            Due.is("nor is one with the same print in an edit", t.x.edit(2, 0, 'A'), 0);
            t = Tried.with("box 60;least 3;border length=3;hook all;");
            t.save("Add");
            t.save("BbVd");
            Due.is("an edit to other bytes", t.x.edit(1, 3, 'e'), 1);
            t = Tried.with("box 60;segs 8;" + POINTS);
            t.save(".a..b.aa.a.");
            Due.is("bytes behind one another, length and all", t.x.has(2), 4);
            StringBuilder every = new StringBuilder();
            for (int b = 0; b < 256; b++) {
                every.append((char) b);
            }
            t = Tried.with("box 60;least 1;border all;");
            t.save(every.toString());
            Due.is("256 unlike ones", t.x.has(2), 256);
            for (int b = 0; b < 256; b++) {
                Due.is("byte " + b + " as a piece is equal to the next", t.x.edit(0, b, b < 255 ? b + 1 : 0), 0);
            }
        });
    }

    private static void octets() {
        Edge.of(10, "Byte k of the FILE of a BACKUP; NONE when there are none such.", () -> {
            Tried t = two();
            int[] last = {8, 399};
            for (int b = 0; b < 2; b++) {
                Due.is("byte 0 of " + b, t.x.octet(b, 0), b == 0 ? 'a' : 255);
                Due.is("the last byte of " + b, t.x.octet(b, last[b]), b == 0 ? '.' : 0);
                for (int k : new int[] {last[b] + 1, -1, MOST_INT, LEAST_INT}) {
                    int backup = b;
                    Twins.unanswered("byte " + k + " of " + b, EdgesOfCutting::two, y -> y.x.octet(backup, k));
                }
            }
            for (int b : new int[] {2, 11, 12, -1, MOST_INT, LEAST_INT}) {
                Twins.unanswered("byte 0 of " + b, EdgesOfCutting::two, y -> y.x.octet(b, 0));
            }
            t.x.forget(0);
            Due.is("of one that is no more", t.x.octet(0, 0), PieceStore.NONE);
        });
    }

    /** Backup 0 has ab.cd.ab. and backup 1 has 400 bytes, 255 first and 0 last. */
    private static Tried two() {
        Tried t = Tried.with("box 60;segs 8;" + POINTS);
        t.save("ab.cd.ab.");
        t.save("\u00ff" + "x".repeat(398) + "\u0000");
        return t;
    }

    private static void cuts() {
        Edge.of(11, "The tape (it goes) is a FILE that is CUT, nothing being saved: how many PIECES (k NONE)", () -> {
            Twins.answered("one piece", Twins::rich, t -> t.cuts("a", PieceStore.NONE), 1);
            Twins.answered("four pieces", Twins::rich, t -> t.cuts("a.b.c.d", PieceStore.NONE), 4);
            Due.is("400 pieces", Tried.with("box 60;least 1;border all;").cuts("a".repeat(400), PieceStore.NONE), 400);
        });
        Edge.of(11, "how many bytes the k-th has. NONE when there is none such", () -> {
            int[] lengths = {2, 1, 3, 1};
            for (int k = 0; k < 4; k++) {
                int at = k;
                Twins.answered("piece " + k, Twins::rich, t -> t.cuts("a..bb.c", at), lengths[k]);
            }
            for (int k : new int[] {4, 5, 400, -2, MOST_INT, LEAST_INT}) {
                Twins.unanswered("piece " + k, Twins::rich, t -> t.cuts("a..bb.c", k));
            }
        });
        Edge.of(11, "or, refused (3), without a store, when it is no FILE.", () -> {
            for (int k : new int[] {PieceStore.NONE, 0, 7}) {
                Twins.refused("cuts(" + k + ") without a store", 3, Twins::bare, t -> t.cuts("abc", k), PieceStore.NONE);
                Twins.refused("cuts(" + k + ") of no bytes", 3, Twins::rich, t -> t.cuts("", k), PieceStore.NONE);
                Twins.refused("cuts(" + k + ") of 401 bytes", 3, Twins::rich, t -> t.cuts("a".repeat(401), k), PieceStore.NONE);
            }
        });
    }

    private static void shared() {
        Edge.of(12, "How many bytes of the FILE of a BACKUP are in STORED PIECES that another one has, too (one with itself: all)", () -> {
            Tried t = Tried.with("box 60;segs 8;" + POINTS);
            t.save("aaa.b.aaa.c.");
            t.save("aaa.d.");
            t.save("e.");
            Due.is("twice in this one", t.x.shared(0, 1), 8);
            Due.is("once in that", t.x.shared(1, 0), 4);
            Due.is("none", t.x.shared(0, 2), 0);
            Due.is("all of itself", t.x.shared(0, 0), 12);
            t = Tried.with("box 60;champs 0;" + POINTS);
            t.save("a.b.");
            t.save("a.b.");
            Due.is("equal ones are not the same", t.x.shared(0, 1), 0);
            Due.is("but of itself all", t.x.shared(1, 1), 4);
        });
        Edge.of(12, "NONE when there are none such.", () -> {
            for (int b : new int[] {1, 3, 11, 12, -1, MOST_INT, LEAST_INT}) {
                Twins.unanswered("the first is " + b, Twins::rich, t -> t.x.shared(b, 0));
                Twins.unanswered("the other is " + b, Twins::rich, t -> t.x.shared(0, b));
                Twins.unanswered("both are " + b, Twins::rich, t -> t.x.shared(b, b));
            }
        });
    }

    private static void edits() {
        Edge.of(13, "its byte k being to (0 .. 255; the one that it is, too), is CUT, nothing being saved", () -> {
            Twins.answered("the byte that it is", EdgesOfCutting::two, t -> t.x.edit(0, 0, 'a'), 0);
            Twins.answered("to 0", EdgesOfCutting::two, t -> t.x.edit(0, 0, 0), 1);
            Twins.answered("to 255", EdgesOfCutting::two, t -> t.x.edit(0, 0, 255), 1);
            Twins.answered("byte 0 that is 255, to 255", EdgesOfCutting::two, t -> t.x.edit(1, 0, 255), 0);
            Twins.answered("the last byte that is 0, to 0", EdgesOfCutting::two, t -> t.x.edit(1, 399, 0), 0);
            Twins.answered("the last byte", EdgesOfCutting::two, t -> t.x.edit(0, 8, 'x'), 1);
            Twins.answered("one piece becomes two", EdgesOfCutting::two, t -> t.x.edit(0, 1, '.'), 2);
            Twins.answered("two become one", EdgesOfCutting::two, t -> t.x.edit(0, 2, 'x'), 1);
            Tried t = Tried.with("box 60;" + "least 1;border byte=46 and day=0;");
            t.save("a.a.");
            t.x.days(1);
            Due.is("it is cut on this day, not on its own", t.x.edit(0, 0, 'a'), 1);
        });
        Edge.of(13, "how many of its PIECES are EQUAL to none of those of the BACKUP.", () -> {
            Tried t = Tried.with("box 60;segs 8;" + POINTS);
            t.save("ab.ab.cb.");
            t.save("xb.");
            Due.is("equal to another one of its own", t.x.edit(0, 6, 'a'), 0);
            Due.is("equal to one of another backup alone", t.x.edit(0, 0, 'x'), 1);
            t.save("abxab.");
            Due.is("like ones count each", t.x.edit(2, 2, '.'), 2);
            t = Tried.with("box 60;segs 8;" + POINTS);
            t.save("a.b.c.");
            t.save("d.e.f.");
            for (int k = 0; k < 3; k++) {
                Due.is("those of the backup that was asked for ahead do not count, " + k, t.x.edit(0, 0, 'a'), 0);
                Due.is("nor do they there, " + k, t.x.edit(1, 2 * k, 'a' + k), 1);
                Due.is("nor its own the other way, " + k, t.x.edit(0, 2 * k, 'd' + k), 1);
            }
        });
        Edge.of(13, "NONE when there are none such.", () -> {
            for (int k : new int[] {9, 10, 400, -1, MOST_INT, LEAST_INT}) {
                Twins.unanswered("byte " + k, EdgesOfCutting::two, t -> t.x.edit(0, k, 0));
            }
            Twins.unanswered("byte 400 of 400", EdgesOfCutting::two, t -> t.x.edit(1, 400, 0));
            for (int to : new int[] {256, -1, MOST_INT, LEAST_INT}) {
                Twins.unanswered("to " + to, EdgesOfCutting::two, t -> t.x.edit(0, 0, to));
            }
            for (int b : new int[] {2, 11, 12, -1, MOST_INT, LEAST_INT}) {
                Twins.unanswered("backup " + b, EdgesOfCutting::two, t -> t.x.edit(b, 0, 0));
            }
        });
    }
}
