/** Promises 6 to 13, 23 and 32: what is there, pieces, boxes, bytes, cutting, sharing, edits, saving, what was kept. */
public final class SavingTest {
    /** Pieces end behind a point. */
    private static final String POINTS = "least 1;border byte=46;hook all;";

    public static void main(String[] args) {
        saving();
        savingRefused();
        threeHundred();
        numbersOfBackups();
        boxesFill();
        championsByTies();
        championsByMost();
        championsAtMost();
        championsFirst();
        hooksAreUnlike();
        hooksByTest();
        indexGoesOn();
        segmentsLosePieces();
        withoutStatements();
        hasCounts();
        backupAnswers();
        pieceAnswers();
        boxAnswers();
        octets();
        cutting();
        cuttingRefused();
        sharing();
        edits();
        keptRows();
        Due.ends("SavingTest");
    }

    private static void saving() {
        Tried t = Tried.with("box 60;segs 2;champs 1;" + POINTS);
        Due.is("save", t.save("a.b.a.b.a."), 0);
        Due.is("the tape goes", t.x.end(1), false);
        Due.is("segments find those ahead", t.x.has(2), 2);
        Due.is("written", t.x.kept(0, 2), 2);
        Due.is("pieces", t.x.kept(0, 1), 5);
        Due.is("an act", t.x.has(10), 1);
        Due.is("place of the last", t.x.piece(0, 4, 3), 0);
        t = Tried.with("box 60;segs 8;champs 0;" + POINTS);
        t.save("a.b.a.b.");
        Due.is("had ahead in its segment", t.x.has(2), 2);
        t.save("a.b.");
        Due.is("without champions all is written", t.x.has(2), 4);
        Due.is("the new ones", t.x.piece(1, 0, 3), 2);
        t = Tried.with("box 60;segs 2;champs 0;" + POINTS);
        t.save("a.b.a.b.");
        Due.is("not of another segment", t.x.has(2), 4);
    }

    private static void savingRefused() {
        Tried t = new Tried();
        Due.is("without a store", t.save("abc"), -1);
        Due.is("the tape goes all the same", t.x.end(1), false);
        t.store("box 60;");
        Due.is("no bytes", t.x.save(), -1);
        Due.is("401 bytes", t.save("a".repeat(401)), -1);
        Due.is("their tape goes", t.x.end(1), false);
        Due.is("400 bytes", t.save("a".repeat(400)), 0);
        Due.is("one byte", t.save("a"), 1);
        Due.is("refused", t.x.status(3), 3);
        Due.is("nothing but two acts", t.x.has(10), 2);
        for (int b = 2; b < 12; b++) {
            Due.is("save " + b, t.save("a"), b);
        }
        Due.is("a 13th", t.save("a"), -1);
        t.x.forget(7);
        Due.is("the free number", t.save("a"), 7);
        Due.is("refused by 12", t.x.status(3), 4);
    }

    private static void threeHundred() {
        Tried t = Tried.with("box 200;least 1;border all;champs 0;segs 1;");
        Due.is("301 pieces", t.save("a".repeat(301)), -1);
        Due.is("nothing was stored", t.x.has(2), 0);
        Due.is("300 pieces", t.save("a".repeat(300)), 0);
        Due.is("300 stored", t.x.has(2), 300);
        Due.is("one more", t.save("b"), -1);
        t = Tried.with("box 200;least 1;border all;segs 8;hook all;");
        Due.is("300 of one kind", t.save("a".repeat(300)), 0);
        Due.is("one stored", t.x.has(2), 1);
        Due.is("as many as it has count as new", t.save("a".repeat(300)), -1);
        Due.is("299 go", t.save("a".repeat(299)), 1);
        Due.is("still one", t.x.has(2), 1);
    }

    private static void numbersOfBackups() {
        Tried t = Tried.with("box 60;" + POINTS);
        t.save("a.");
        t.save("b.");
        t.save("c.");
        t.x.forget(1);
        t.x.forget(0);
        Due.is("the least that is free", t.save("d."), 0);
        Due.is("and the next", t.save("e."), 1);
        Due.is("and behind all", t.save("f."), 3);
        Due.is("its bytes", t.x.octet(0, 0), 'd');
        Due.is("others stay", t.x.octet(2, 0), 'c');
    }

    private static void boxesFill() {
        Tried t = Tried.with("box 60;least 30;most 30;border not all;champs 0;");
        t.save("a".repeat(30) + "b".repeat(29));
        Due.is("59 bytes in one", t.x.has(4), 1);
        t.save("c");
        Due.is("60 bytes in one", t.x.has(4), 1);
        Due.is("they are", t.x.box(0, 0), 60);
        t.x.days(2);
        t.save("d");
        Due.is("61 take a new one", t.x.has(4), 2);
        Due.is("its box", t.x.piece(2, 0, 2), 1);
        Due.is("its place", t.x.piece(2, 0, 3), 0);
        Due.is("its age", t.x.box(1, 3), 0);
        Due.is("the other's age", t.x.box(0, 3), 2);
        t.save("e".repeat(30) + "f".repeat(29));
        Due.is("behind all in the last one", t.x.box(1, 0), 60);
        t.x.smash(1);
        t.x.undo();
        t.x.forget(3);
        t.x.smash(1);
        t.save("g");
        Due.is("a full one is full", t.x.box(2, 0), 1);
        t.x.smash(2);
        t.save("h");
        Due.is("the last one, broken or not", t.x.box(2, 0), 2);
        Due.is("so it is lost", t.x.why(4, 1), 1);
    }

    private static void championsByTies() {
        Tried t = Tried.with("box 100;segs 2;champs 1;" + POINTS);
        t.save("a.b.");
        t.save("c.d.");
        t.save("a.c.");
        Due.is("one is written", t.x.kept(2, 2), 1);
        Due.is("a. is new: of like ones the latest", t.x.piece(2, 0, 3), 4);
        Due.is("c. was had", t.x.piece(2, 1, 3), 2);
        t.save("a.b.");
        Due.is("the index tells the latest segment for a.", t.x.piece(3, 0, 3), 4);
        Due.is("b. is new", t.x.piece(3, 1, 3), 5);
    }

    private static void championsByMost() {
        Tried t = Tried.with("box 100;segs 3;champs 1;" + POINTS);
        t.save("a.b.c.");
        t.save("c.x.y.");
        Due.is("c. was had", t.x.kept(1, 2), 2);
        t.save("a.b.y.");
        Due.is("two hooks beat the later one", t.x.kept(2, 2), 1);
        Due.is("a.", t.x.piece(2, 0, 3), 0);
        Due.is("b.", t.x.piece(2, 1, 3), 1);
        Due.is("y. is written", t.x.piece(2, 2, 3), 5);
    }

    private static void championsAtMost() {
        for (int champs = 0; champs <= 4; champs++) {
            Tried t = Tried.with("box 100;segs 5;champs " + champs + ";" + POINTS);
            String[] all = {"a.", "b.", "c.", "d.", "e."};
            for (String one : all) {
                t.save(one);
            }
            t.save("a.b.c.d.e.");
            Due.is("written with " + champs + " champions", t.x.kept(5, 2), 5 - champs);
            for (int k = 0; k < 5; k++) {
                int place = 5 - champs <= k ? k : 5 + k;
                Due.is("the latest first, piece " + k, t.x.piece(5, k, 3), place);
            }
        }
    }

    /** qq. is no hook, and in two segments as two stored pieces: the first champion's counts. */
    private static void championsFirst() {
        String text = "box 100;segs 4;champs 2;least 1;border byte=46;hook length=2;";
        Tried t = Tried.with(text);
        t.save("a.b.qq.");
        t.save("c.qq.");
        Due.is("qq. is no hook", t.x.has(6), 3);
        Due.is("two of qq.", t.x.has(2), 5);
        t.save("c.a.qq.b.");
        Due.is("qq. of the champion with more hooks", t.x.piece(2, 2, 3), 2);
        Due.is("c. of the second one", t.x.piece(2, 0, 3), 3);
        Due.is("nothing is written", t.x.kept(2, 2), 0);
        t = Tried.with(text);
        t.save("a.qq.");
        t.save("c.qq.");
        t.save("qq.c.a.qq.");
        Due.is("of like champions the latest first", t.x.piece(2, 0, 3), 3);
        Due.is("and again", t.x.piece(2, 3, 3), 3);
        t.save("qq.qq.");
        Due.is("no hook, no champion", t.x.kept(3, 2), 1);
        Due.is("had ahead in this one", t.x.piece(3, 1, 3), 4);
    }

    private static int print(String bytes) {
        int c = 7;
        for (char b : bytes.toCharArray()) {
            c = (257 * c + b + 1) % 65521;
        }
        return c;
    }

    private static void hooksAreUnlike() {
        Tried t = Tried.with("box 100;segs 5;champs 1;" + POINTS);
        t.save("a.b.");
        t.save("c.d.");
        t.save("a.a.a.c.d.");
        Due.is("three like hooks are one", t.x.piece(2, 3, 3), 2);
        Due.is("a. is written", t.x.piece(2, 0, 3), 4);
        Due.is("once", t.x.kept(2, 2), 1);
        Due.is("unlike hooks of the index", t.x.has(6), 4);
    }

    private static void hooksByTest() {
        Tried t = Tried.with("box 100;segs 2;champs 1;least 1;border byte=46;hook place=0;");
        t.save("a.b.a.b.");
        Due.is("place is of the file", t.x.has(6), 1);
        t.save("b.a.");
        Due.is("b. is no hook that is told", t.x.kept(1, 2), 2);
        Due.is("now it is", t.x.has(6), 2);
        t.save("b.a.");
        Due.is("so it finds its segment", t.x.kept(2, 2), 0);
        t = Tried.with("box 100;segs 4;champs 1;least 1;border byte=46;hook length>2;");
        t.save("a.bb.ccc.");
        Due.is("by length", t.x.has(6), 2);
        t = Tried.with("box 100;segs 4;champs 1;least 1;border byte=46;hook day=1;");
        t.save("a.b.");
        Due.is("on day 0 none", t.x.has(6), 0);
        t.x.days(1);
        t.save("a.b.");
        Due.is("on day 1 both", t.x.has(6), 2);
        t = Tried.with("box 100;hook day=1;");
        t.save("abcabc");
        t.x.days(1);
        Due.is("none on day 0 without a border", t.x.has(6), 0);
        t.save("abcabc");
        Due.is("some on day 1", t.x.has(6) > 0, true);
        t = Tried.with("box 100;segs 4;champs 1;least 1;border byte=46;hook print%7=" + print("b.") % 7 + " and print/7=" + print("b.") / 7 + ";");
        t.save("a.b.c.");
        Due.is("by print", t.x.has(6), 1);
        t = Tried.with("box 100;segs 4;least 1;border byte=46;");
        t.save("a.b.c.d.e.f.gg.");
        int even = 0;
        for (String p : new String[] {"a.", "b.", "c.", "d.", "e.", "f.", "gg."}) {
            even += print(p) % 2 == 0 ? 1 : 0;
        }
        Due.is("without a test: even prints", t.x.has(6), even);
    }

    private static void indexGoesOn() {
        Tried t = Tried.with("box 60;segs 2;champs 1;clean all;" + POINTS);
        t.save("a.b.");
        t.x.forget(0);
        Due.is("not live", t.x.has(3), 0);
        t.save("b.a.");
        Due.is("but had", t.x.kept(1, 2), 0);
        Due.is("live again", t.x.has(3), 2);
        t.x.forget(0);
        t.x.clean();
        Due.is("cleaned away", t.x.has(2), 0);
        Due.is("no boxes", t.x.has(4), 0);
        Due.is("the index goes on", t.x.has(6), 2);
        t.save("a.b.");
        Due.is("but its pieces are no more", t.x.kept(2, 2), 2);
        Due.is("unlike hooks stay so many", t.x.has(6), 2);
    }

    private static void segmentsLosePieces() {
        Tried t = Tried.with("box 60;segs 3;champs 1;clean all;" + POINTS);
        t.save("a.b.c.");
        t.save("b.");
        t.x.forget(0);
        Due.is("one box is cleaned", t.x.clean(), 1);
        Due.is("b. is left", t.x.has(2), 1);
        Due.is("at the beginning", t.x.piece(1, 0, 3), 0);
        t.save("a.c.b.");
        Due.is("a. and c. are of no segment, b. is", t.x.kept(2, 2), 2);
        Due.is("it is the one that was left", t.x.piece(0, 2, 3), 0);
        t.x.undo();
        t.x.undo();
        t.save("a.c.");
        Due.is("undone they are there", t.x.kept(2, 2), 0);
    }

    private static void withoutStatements() {
        Tried t = Tried.with("box 60;");
        StringBuilder file = new StringBuilder();
        for (int i = 0; i < 120; i++) {
            file.append((char) ('a' + i * i % 23));
        }
        t.save(file.toString());
        int from = 0;
        int k = 0;
        for (int i = 0; i < 120; i++) {
            int sum = 0;
            for (int j = Math.max(0, i - 3); j <= i; j++) {
                sum = (sum * 31 + file.charAt(j)) % 1009;
            }
            int length = i - from + 1;
            if (length >= 3 && sum % (length < 8 ? 8 : 3) == 0 || length == 30 || i == 119) {
                Due.is("piece " + k, t.x.piece(0, k, 0), length);
                Due.is("print " + k, t.x.piece(0, k, 1), print(file.substring(from, i + 1)));
                k++;
                from = i + 1;
            }
        }
        Due.is("pieces", t.x.backup(0, 2), k);
        t = Tried.with("box 60;border not all;");
        Due.is("most without is 30", t.cuts("x".repeat(70), 0), 30);
        t = Tried.with("box 60;border all;");
        Due.is("least without is 3", t.cuts("x".repeat(70), 0), 3);
        t = Tried.with("box 200;least 1;border byte=46;hook all;champs 4;");
        t.save("a.b.c.d.e.");
        t.save("e.a.");
        Due.is("segs without is 4: a. and e. of two", t.x.kept(1, 2), 0);
        t = Tried.with("box 200;least 1;border byte=46;hook all;champs 0;");
        t.save("a.b.c.d.a.d.d.d.d.");
        Due.is("segs without is 4: a. and d. twice and d. a third time", t.x.has(2), 7);
        t = Tried.with("box 200;least 1;border byte=46;hook all;segs 8;");
        t.save("a.");
        t.save("b.");
        t.save("c.");
        t.save("a.b.c.");
        Due.is("champs without is 2", t.x.kept(3, 2), 1);
    }

    private static void hasCounts() {
        Tried t = Tried.with("box 70;segs 4;champs 2;keep 2;" + POINTS);
        t.save("a.b.");
        t.x.days(1);
        t.save("a.cc.");
        t.x.days(1);
        t.x.seed(5);
        t.meet(1, 2, 3, 4);
        int[] want = {70, 1, 3, 2, 1, 7, 3, 2, 2, 2, 4, 5};
        for (int what = 0; what < want.length; what++) {
            Due.is("has(" + what + ")", t.x.has(what), want[what]);
        }
        Due.is("has(12)", t.x.has(12), -1);
        Due.is("has(-1)", t.x.has(-1), -1);
        Due.is("has(most int)", t.x.has(Integer.MAX_VALUE), -1);
    }

    private static void backupAnswers() {
        Tried t = Tried.with("box 70;" + POINTS);
        t.x.days(5);
        t.save("aaaa.b.cc");
        Due.is("its day", t.x.backup(0, 0), 5);
        Due.is("its bytes", t.x.backup(0, 1), 9);
        Due.is("its pieces", t.x.backup(0, 2), 3);
        t.x.days(2);
        Due.is("its day stays", t.x.backup(0, 0), 5);
        for (int what : new int[] {-1, 3, Integer.MAX_VALUE, Integer.MIN_VALUE}) {
            Due.is("backup(0, " + what + ")", t.x.backup(0, what), -1);
        }
        for (int b : new int[] {-1, 1, 11, 12, Integer.MAX_VALUE, Integer.MIN_VALUE}) {
            Due.is("backup(" + b + ", 0)", t.x.backup(b, 0), -1);
        }
        t.x.forget(0);
        Due.is("forgotten", t.x.backup(0, 0), -1);
    }

    private static void pieceAnswers() {
        Tried t = Tried.with("box 60;most 60;champs 1;" + POINTS);
        t.save("a.b.");
        t.save("x".repeat(58) + ".a.");
        Due.is("bytes", t.x.piece(1, 0, 0), 59);
        Due.is("print", t.x.piece(0, 1, 1), print("b."));
        Due.is("the print of ab.", print("ab."), 44291);
        Due.is("box of the long one", t.x.piece(1, 0, 2), 1);
        Due.is("box of a. in it", t.x.piece(1, 1, 2), 0);
        Due.is("place", t.x.piece(0, 1, 3), 1);
        Due.is("not spoiled", t.x.piece(1, 1, 4), 0);
        t.x.spoil(0, 0);
        Due.is("spoiled for all that have it", t.x.piece(1, 1, 4), 1);
        Due.is("the other is not", t.x.piece(0, 1, 4), 0);
        Due.is("what 5", t.x.piece(0, 0, 5), -1);
        Due.is("what -1", t.x.piece(0, 0, -1), -1);
        Due.is("k 2", t.x.piece(0, 2, 0), -1);
        Due.is("k -1", t.x.piece(0, -1, 0), -1);
        Due.is("backup 2", t.x.piece(2, 0, 0), -1);
        Due.is("backup -1", t.x.piece(-1, 0, 0), -1);
        Due.is("backup 12", t.x.piece(12, 0, 0), -1);
    }

    private static void boxAnswers() {
        Tried t = Tried.with("box 60;champs 1;clean dead=2 and live=5 and age=3 and day=3;" + POINTS);
        t.save("a.");
        t.save("bb.cc");
        t.x.forget(0);
        t.x.days(2);
        Due.is("the test fails yet", t.x.box(0, 5), 0);
        t.x.days(1);
        Due.is("bytes", t.x.box(0, 0), 7);
        Due.is("pieces", t.x.box(0, 1), 3);
        Due.is("live ones", t.x.box(0, 2), 2);
        Due.is("days", t.x.box(0, 3), 3);
        Due.is("not broken", t.x.box(0, 4), 0);
        Due.is("the test holds", t.x.box(0, 5), 1);
        t.x.smash(0);
        Due.is("broken", t.x.box(0, 4), 1);
        Due.is("the test holds all the same", t.x.box(0, 5), 1);
        Due.is("what 6", t.x.box(0, 6), -1);
        Due.is("what -1", t.x.box(0, -1), -1);
        for (int what = 0; what < 6; what++) {
            Due.is("box 1, " + what, t.x.box(1, what), -1);
            Due.is("box -1, " + what, t.x.box(-1, what), -1);
            Due.is("the most int, " + what, t.x.box(Integer.MAX_VALUE, what), -1);
        }
        t.x.days(2);
        t.save("d".repeat(24) + "." + "e".repeat(24) + "." + "f".repeat(24) + ".");
        t.x.days(1);
        Due.is("pieces of the second box", t.x.box(1, 1), 1);
        Due.is("its days", t.x.box(1, 3), 1);
        t = Tried.with("box 60;keep 1;clean live=0;" + POINTS);
        t.save("a.");
        Due.is("live now, though not tomorrow", t.x.box(0, 2), 1);
        Due.is("nor is it to be cleaned now", t.x.box(0, 5), 0);
        t.x.later(1, 1);
        Due.is("whatever was asked ahead", t.x.box(0, 2), 1);
        Due.is("so it is refused", t.x.clean(), -1);
        t = Tried.with("box 60;clean age=1;least 1;most 60;border byte=46;");
        t.x.days(1);
        t.save("a.");
        t.x.days(1);
        Due.is("age is not the day", t.x.box(0, 5), 1);
        t = Tried.with("box 60;champs 1;" + POINTS);
        t.save("aa.");
        t.save("bb.");
        t.x.forget(0);
        Due.is("without a test: like ones are none", t.x.box(0, 5), 0);
        t.x.forget(1);
        Due.is("more dead than live", t.x.box(0, 5), 1);
    }

    private static void octets() {
        Tried t = Tried.with("box 60;" + POINTS);
        StringBuilder file = new StringBuilder();
        for (int i = 0; i < 256; i++) {
            file.append((char) i);
        }
        t.save(file.toString());
        for (int i = 0; i < 256; i += 5) {
            Due.is("octet " + i, t.x.octet(0, i), i);
        }
        Due.is("octet 256", t.x.octet(0, 256), -1);
        Due.is("octet -1", t.x.octet(0, -1), -1);
        Due.is("no backup", t.x.octet(1, 0), -1);
        t.x.smash(0);
        t.x.spoil(0, 0);
        Due.is("lost or not", t.x.octet(0, 1), 1);
    }

    private static void cutting() {
        Tried t = Tried.with("box 60;least 3;border byte=46;most 31;");
        Due.is("pieces", t.cuts(".a.b....", PieceStore.NONE), 3);
        Due.is("the tape goes", t.x.end(1), false);
        Due.is("not below least", t.cuts(".a.b....", 0), 3);
        Due.is("with least", t.cuts(".a.b....", 1), 3);
        Due.is("the file ends", t.cuts(".a.b....", 2), 2);
        Due.is("none such", t.cuts(".a.b....", 3), -1);
        Due.is("nor below NONE", t.cuts(".a.b....", -2), -1);
        Due.is("most", t.cuts("x".repeat(63), 1), 31);
        Due.is("behind most", t.cuts("x".repeat(63), 2), 1);
        Due.is("exactly most", t.cuts("x".repeat(62), PieceStore.NONE), 2);
        Due.is("400 bytes", t.cuts("x".repeat(400), PieceStore.NONE), 13);
        Due.is("nothing is saved", t.x.has(2), 0);
        Due.is("it is no act", t.x.has(10), 0);
        Due.is("nothing was refused", t.x.status(3), 0);
    }

    private static void cuttingRefused() {
        Tried t = new Tried();
        Due.is("without a store", t.cuts("abc", PieceStore.NONE), -1);
        Due.is("the tape goes", t.x.end(1), false);
        t.store("box 60;");
        Due.is("no bytes", t.x.cuts(PieceStore.NONE), -1);
        Due.is("401 bytes", t.cuts("x".repeat(401), 0), -1);
        Due.is("refused", t.x.status(3), 3);
    }

    private static void sharing() {
        Tried t = Tried.with("box 60;segs 8;champs 1;" + POINTS);
        t.save("aaa.b.aaa.c.");
        t.save("aaa.d.");
        t.save("e.");
        Due.is("twice in the one", t.x.shared(0, 1), 8);
        Due.is("once in the other", t.x.shared(1, 0), 4);
        Due.is("nothing", t.x.shared(0, 2), 0);
        Due.is("itself", t.x.shared(0, 0), 12);
        Due.is("no other", t.x.shared(0, 3), -1);
        Due.is("no backup", t.x.shared(3, 0), -1);
        Due.is("below 0", t.x.shared(-1, 0), -1);
        t = Tried.with("box 60;champs 0;" + POINTS);
        t.save("a.");
        t.save("a.");
        Due.is("equal is not the same", t.x.shared(0, 1), 0);
    }

    private static void edits() {
        Tried t = Tried.with("box 60;segs 8;" + POINTS);
        t.save("ab.cd.ab.");
        Due.is("the byte that it is", t.x.edit(0, 0, 'a'), 0);
        Due.is("one piece is new", t.x.edit(0, 0, 'x'), 1);
        Due.is("two become one", t.x.edit(0, 2, 'x'), 1);
        Due.is("one becomes two", t.x.edit(0, 1, '.'), 2);
        t.save("aa.ba.");
        Due.is("equal to another of its own", t.x.edit(1, 3, 'a'), 0);
        Due.is("nothing is saved", t.x.has(2), 4);
        Due.is("the file stays", t.x.octet(1, 3), 'b');
        Due.is("k too high", t.x.edit(0, 9, 0), -1);
        Due.is("k below 0", t.x.edit(0, -1, 0), -1);
        Due.is("to 256", t.x.edit(0, 0, 256), -1);
        Due.is("to -1", t.x.edit(0, 0, -1), -1);
        Due.is("to 255", t.x.edit(0, 0, 255), 1);
        Due.is("to 0", t.x.edit(0, 0, 0), 1);
        Due.is("no backup", t.x.edit(2, 0, 0), -1);
        t = Tried.with("box 60;least 1;border byte=46 and day=0;");
        t.save("a.a.");
        t.x.days(1);
        Due.is("cut by today's test", t.x.edit(0, 0, 'a'), 1);
        t = Tried.with("box 60;least 2;border all;");
        t.save("abcd");
        Due.is("every piece of the edited file counts", t.x.edit(0, 0, 'c'), 1);
        t = Tried.with("box 60;least 1;border byte=46;");
        t.save("abxab.");
        Due.is("like ones count each", t.x.edit(0, 2, '.'), 2);
    }

    private static void keptRows() {
        Tried t = Tried.with("box 200;" + POINTS);
        for (int i = 0; i < 45; i++) {
            t.save("a." + (char) ('A' + i) + ".");
            t.x.forget(0);
            if (i % 9 == 8) {
                t.x.days(1);
            }
        }
        Due.is("40 are told", t.x.has(8), 40);
        Due.is("the oldest told", t.x.kept(0, 0), 0);
        Due.is("the fifth", t.x.kept(3, 0), 0);
        Due.is("the next day's", t.x.kept(4, 0), 1);
        Due.is("the last", t.x.kept(39, 0), 4);
        Due.is("its pieces", t.x.kept(39, 1), 2);
        Due.is("none such", t.x.kept(40, 0), -1);
        Due.is("below 0", t.x.kept(-1, 0), -1);
        Due.is("what 3", t.x.kept(0, 3), -1);
        Due.is("what -1", t.x.kept(0, -1), -1);
        for (int i = 0; i < 11; i++) {
            t.x.undo();
        }
        Due.is("40 of 40 are told", t.x.has(8), 40);
        Due.is("the first of all", t.x.kept(0, 0), 0);
        Due.is("the last of day 4", t.x.kept(39, 0), 4);
        for (int i = 0; i < 9; i++) {
            t.x.undo();
        }
        Due.is("nothing more to undo", t.x.undo(), false);
        Due.is("fewer", t.x.has(8), 36);
    }
}
