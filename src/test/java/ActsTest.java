/** Promises 24 to 31 and 33: forgetting, days, chance, cleaning, spoiling, smashing, undoing, the seed, what was refused. */
public final class ActsTest {
    private static final String POINTS = "least 1;border byte=46;hook all;";

    public static void main(String[] args) {
        forgetting();
        passing();
        lastDay();
        chances();
        chanceWithoutBoxes();
        drawing();
        drawingTheEdge();
        cleaning();
        cleaningInOrder();
        cleaningRefused();
        spoiling();
        smashing();
        undoing();
        undoingSaves();
        storingAgain();
        undoingTwenty();
        undoingIsNoMeeting();
        seeding();
        refusals();
        Due.ends("ActsTest");
    }

    private static void forgetting() {
        Tried t = Tried.with("box 60;" + POINTS);
        t.save("a.b.");
        Due.is("none such", t.x.forget(1), false);
        Due.is("below 0", t.x.forget(-1), false);
        Due.is("12", t.x.forget(12), false);
        Due.is("forget", t.x.forget(0), true);
        Due.is("again", t.x.forget(0), false);
        Due.is("no backup", t.x.has(1), 0);
        Due.is("its pieces stay", t.x.has(2), 2);
        Due.is("not live", t.x.has(3), 0);
        Due.is("refused", t.x.status(3), 4);
        Due.is("kept stays", t.x.has(8), 1);
        Due.is("two acts", t.x.has(10), 2);
    }

    private static void passing() {
        Due.is("without a store", new PieceStore().days(1), -1);
        Tried t = Tried.with("box 60;keep 3;rot 100;" + POINTS);
        t.save("a.");
        t.x.days(1);
        t.save("b.");
        Due.is("none yet", t.x.days(1), 0);
        Due.is("the first", t.x.days(1), 1);
        Due.is("it is no more", t.x.backup(0, 0), -1);
        Due.is("the other is", t.x.backup(1, 0), 1);
        Due.is("its number is free", t.save("c."), 0);
        Due.is("all", t.x.days(40), 2);
        Due.is("day", t.x.has(7), 43);
        Due.is("no draws", t.x.has(11), 1);
        Due.is("nothing broken", t.x.box(0, 4), 0);
        Due.is("0 days", t.x.days(0), -1);
        Due.is("-1 days", t.x.days(-1), -1);
        Due.is("41 days", t.x.days(41), -1);
        Due.is("refused", t.x.status(2), 3);
        Due.is("n days are one act", t.x.has(10), 7);
        t = Tried.with("box 60;" + POINTS);
        t.save("a.");
        Due.is("without keep", t.x.days(40), 0);
        Due.is("it stays", t.x.has(1), 1);
    }

    private static void lastDay() {
        Tried t = Tried.with("box 60;");
        for (int i = 0; i < 24; i++) {
            t.x.days(40);
        }
        Due.is("beyond 999", t.x.days(40), -1);
        Due.is("beyond 999 by the seed", t.x.chance(40), -1);
        Due.is("to 999", t.x.days(39), 0);
        Due.is("day 999", t.x.has(7), 999);
        Due.is("no more", t.x.days(1), -1);
        Due.is("no more by the seed", t.x.chance(1), -1);
        Due.is("a save on day 999", t.save("abc"), 0);
        Due.is("its day", t.x.backup(0, 0), 999);
    }

    /** The draws once more, by long numbers. */
    private static long next(long x) {
        return (1103515245L * x + 12345L) % 2147483648L;
    }

    private static void chances() {
        Due.is("without a store", new PieceStore().chance(1), -1);
        Tried t = Tried.with("box 60;champs 0;rot 40;least 1;most 60;border byte=46;");
        for (char c = 'a'; c < 'h'; c++) {
            t.save(String.valueOf(c).repeat(50));
        }
        t.x.seed(20261118);
        long x = 20261118;
        boolean[] broken = new boolean[7];
        int drawn = 0;
        for (int day = 0; day < 12; day++) {
            x = next(x);
            if (x / 64 % 100 < 40) {
                x = next(x);
                broken[(int) (x / 64 % 7)] = true;
                drawn++;
            }
        }
        Due.is("how many times", t.x.chance(12), drawn);
        Due.is("the seed", t.x.has(11), x);
        Due.is("the day", t.x.has(7), 12);
        for (int b = 0; b < 7; b++) {
            Due.is("box " + b, t.x.box(b, 4) == 1, broken[b]);
        }
        Due.is("one act", t.x.has(10), 8);
        Due.is("0 days", t.x.chance(0), -1);
        Due.is("41 days", t.x.chance(41), -1);
        Due.is("-1 days", t.x.chance(-1), -1);
        Due.is("refused", t.x.status(2), 3);
        Due.is("no draw by what is refused", t.x.has(11), x);
        t.x.undo();
        Due.is("the seed is not undone", t.x.has(11), x);
        Due.is("the boxes are", t.x.why(0, 0), -1);
        Due.is("the day is", t.x.has(7), 0);
        t = Tried.with("box 60;keep 2;rot 100;" + POINTS);
        t.save("a.");
        Due.is("a box may be drawn again", t.x.chance(3), 3);
        Due.is("and backups expire", t.x.has(1), 0);
        t = Tried.with("box 60;" + POINTS);
        t.save("a.");
        Due.is("rot 0", t.x.chance(40), 0);
    }

    private static void chanceWithoutBoxes() {
        Tried t = Tried.with("box 60;rot 100;");
        Due.is("no box is drawn", t.x.chance(2), 0);
        Due.is("but a number each day", t.x.has(11), next(next(1)));
    }

    private static void drawing() {
        Tried t = Tried.with("box 60;rot 50;");
        t.x.seed(Integer.MAX_VALUE);
        t.x.chance(1);
        Due.is("from the highest seed", t.x.has(11), next(Integer.MAX_VALUE));
        t.x.seed(0);
        t.x.chance(1);
        Due.is("from 0", t.x.has(11), 12345);
    }

    /** A draw below rot breaks a box, a draw of rot itself does not. */
    private static void drawingTheEdge() {
        int number = (int) (next(99) / 64 % 100);
        for (int rot = number; rot <= number + 1; rot++) {
            Tried t = Tried.with("box 60;rot " + rot + ";" + POINTS);
            t.save("a.");
            t.x.seed(99);
            Due.is("rot " + rot, t.x.chance(1), rot - number);
        }
    }

    private static void cleaning() {
        Tried t = Tried.with("box 60;champs 0;" + "least 1;most 60;border byte=46;");
        t.save("a".repeat(40));
        t.save("b".repeat(20));
        t.save("c".repeat(40));
        t.x.forget(0);
        t.x.spoil(1, 0);
        t.x.days(4);
        Due.is("one box", t.x.clean(), 1);
        Due.is("its live one goes behind the last that is left", t.x.piece(1, 0, 2), 0);
        Due.is("at its end", t.x.piece(1, 0, 3), 1);
        Due.is("spoiled as it was", t.x.piece(1, 0, 4), 1);
        Due.is("the other has moved up", t.x.piece(2, 0, 2), 0);
        Due.is("boxes", t.x.has(4), 1);
        Due.is("pieces", t.x.has(2), 2);
        Due.is("bytes", t.x.has(5), 60);
        Due.is("its age stays", t.x.box(0, 3), 4);
        Due.is("an act", t.x.has(10), 7);
        t.x.undo();
        Due.is("undone: boxes", t.x.has(4), 2);
        Due.is("undone: its box", t.x.piece(1, 0, 2), 0);
        Due.is("undone: the other's", t.x.piece(2, 0, 2), 1);
        t = Tried.with("box 60;champs 0;clean all;" + "least 1;most 60;border byte=46;");
        t.save("a.");
        t.x.days(3);
        Due.is("all are cleaned", t.x.clean(), 1);
        Due.is("a new one", t.x.box(0, 3), 0);
        Due.is("with what was live", t.x.box(0, 0), 2);
    }

    private static void cleaningInOrder() {
        Tried t = Tried.with("box 60;champs 0;clean dead>0;least 1;most 60;border byte=46;");
        t.save("A.");
        t.save("b".repeat(20) + "." + "c".repeat(20) + ".");
        t.save("D".repeat(30) + ".");
        t.save("e".repeat(20) + ".");
        t.save("f".repeat(40) + ".");
        t.save("g".repeat(19));
        Due.is("2 + 21 + 21, 31 + 21, 41 + 19", t.x.has(4), 3);
        t.x.forget(0);
        t.x.forget(2);
        Due.is("two boxes", t.x.clean(), 2);
        Due.is("the full one is the first now", t.x.piece(4, 0, 2), 0);
        Due.is("b. takes a new one", t.x.piece(1, 0, 2), 1);
        Due.is("b. first", t.x.piece(1, 0, 3), 0);
        Due.is("c. behind it", t.x.piece(1, 1, 3), 1);
        Due.is("e. takes another", t.x.piece(3, 0, 2), 2);
        Due.is("boxes", t.x.has(4), 3);
        Due.is("pieces", t.x.has(2), 5);
        Due.is("bytes", t.x.has(5), 123);
        t = Tried.with("box 60;champs 0;clean dead>0;least 1;most 60;border byte=46;");
        t.save("A.");
        t.save("b".repeat(57) + ".");
        t.save("cc");
        t.save("d".repeat(40));
        t.save("e".repeat(10));
        t.x.forget(0);
        t.x.forget(3);
        t.x.smash(1);
        Due.is("not the broken one", t.x.clean(), 1);
        Due.is("it is left", t.x.has(4), 2);
        Due.is("58 do not fit behind 52", t.x.piece(1, 0, 2), 1);
        Due.is("it is broken still", t.x.box(0, 4), 1);
        Due.is("the new one is not", t.x.box(1, 4), 0);
    }

    private static void cleaningRefused() {
        Tried t = new Tried();
        Due.is("without a store", t.x.clean(), -1);
        t.store("box 60;" + POINTS);
        Due.is("without boxes", t.x.clean(), -1);
        t.save("a.");
        Due.is("all live", t.x.clean(), -1);
        t.x.forget(0);
        t.x.smash(0);
        Due.is("broken", t.x.clean(), -1);
        Due.is("refused", t.x.status(2), 4);
        Due.is("three acts", t.x.has(10), 3);
        t.x.undo();
        Due.is("not broken", t.x.clean(), 1);
        Due.is("nothing is left", t.x.has(4), 0);
        Due.is("not a piece", t.x.has(2), 0);
    }

    private static void spoiling() {
        Tried t = Tried.with("box 60;champs 1;" + POINTS);
        t.save("a.b.");
        t.save("b.");
        Due.is("spoil", t.x.spoil(1, 0), true);
        Due.is("the same one", t.x.spoil(0, 1), false);
        Due.is("another", t.x.spoil(0, 0), true);
        Due.is("k 2", t.x.spoil(0, 2), false);
        Due.is("k -1", t.x.spoil(0, -1), false);
        Due.is("backup 2", t.x.spoil(2, 0), false);
        Due.is("backup -1", t.x.spoil(-1, 0), false);
        Due.is("refused", t.x.status(3), 5);
        Due.is("acts", t.x.has(10), 4);
        t.save("b.");
        Due.is("saved again it is that one", t.x.piece(2, 0, 4), 1);
    }

    private static void smashing() {
        Tried t = Tried.with("box 60;" + POINTS);
        Due.is("no boxes", t.x.smash(0), false);
        t.save("a.");
        Due.is("smash", t.x.smash(0), true);
        Due.is("again", t.x.smash(0), false);
        Due.is("box 1", t.x.smash(1), false);
        Due.is("box -1", t.x.smash(-1), false);
        Due.is("refused", t.x.status(3), 4);
        Due.is("acts", t.x.has(10), 2);
        Due.is("undo", t.x.undo(), true);
        Due.is("whole again", t.x.box(0, 4), 0);
    }

    private static void undoing() {
        Due.is("nothing at first", new PieceStore().undo(), false);
        Tried t = Tried.with("box 60;keep 2;" + POINTS);
        Due.is("nothing yet", t.x.undo(), false);
        t.save("a.b.");
        t.x.forget(0);
        Due.is("undo forget", t.x.undo(), true);
        Due.is("it is there", t.x.backup(0, 2), 2);
        t.x.days(2);
        Due.is("expired", t.x.has(1), 0);
        t.x.undo();
        Due.is("there again", t.x.has(1), 1);
        Due.is("day 0", t.x.has(7), 0);
        t.x.spoil(0, 0);
        t.x.undo();
        Due.is("not spoiled", t.x.piece(0, 0, 4), 0);
        Due.is("one act is left", t.x.has(10), 1);
        t.x.undo();
        Due.is("nothing saved", t.x.has(2), 0);
        Due.is("no boxes", t.x.has(4), 0);
        Due.is("no hooks", t.x.has(6), 0);
        Due.is("nothing kept", t.x.has(8), 0);
        Due.is("nothing more", t.x.undo(), false);
        Due.is("refused", t.x.status(4), 2);
    }

    /** The index tells again what it told ahead of a save. */
    private static void undoingSaves() {
        Tried t = Tried.with("box 100;segs 2;champs 1;" + POINTS);
        t.save("a.b.");
        t.save("c.a.");
        t.save("a.d.");
        Due.is("hooks", t.x.has(6), 4);
        t.x.undo();
        Due.is("d. is told no more", t.x.has(6), 3);
        t.x.undo();
        Due.is("nor c.", t.x.has(6), 2);
        t.save("a.b.");
        Due.is("a. and b. by one segment", t.x.kept(1, 2), 0);
        t.save("x.a.");
        Due.is("a. was had", t.x.kept(2, 2), 1);
        Due.is("behind two", t.x.piece(2, 0, 3), 2);
        t.x.undo();
        t.save("y.y.y.b.");
        Due.is("new pieces at the same place", t.x.octet(2, 0), 'y');
        Due.is("y. once, b. anew: the later segment is the champion", t.x.has(2), 4);
        t.x.undo();
        t.x.undo();
        t.x.undo();
        Due.is("all undone", t.x.has(2), 0);
        t.save("a.b.");
        Due.is("as new", t.x.kept(0, 2), 2);
        Due.is("bytes of it", t.x.octet(0, 2), 'b');
        t.save("c.");
        t.x.forget(0);
        t.x.days(2);
        t.save("d.");
        Due.is("the number is another's", t.x.octet(0, 0), 'd');
        t.x.undo();
        t.x.undo();
        t.x.undo();
        Due.is("its own again", t.x.octet(0, 0), 'a');
        Due.is("on its day", t.x.backup(0, 0), 0);
    }

    /** Nothing of the store ahead is left: not its tests, numbers, pieces, index, nor what undoing would need. */
    private static void storingAgain() {
        Tried t = Tried.with("box 200;segs 1;champs 4;window 1;keep 1;rot 100;desk 6;clean all;" + POINTS);
        t.save("a.b.c.d.e.f.g.h.");
        t.save("h.g.f.e.");
        t.x.spoil(0, 0);
        t.x.smash(0);
        t.meet(0, 2);
        t.store("box 70;least 1;segs 2;champs 1;border byte=46;hook all;");
        t.save("a.b.");
        Due.is("written anew", t.x.has(2), 2);
        Due.is("hooks anew", t.x.has(6), 2);
        Due.is("whole", t.x.why(0, 0), -1);
        Due.is("no rot", t.x.odds(0), 100);
        Due.is("no keep", t.x.expires(0), -1);
        Due.is("no test of clean", t.x.box(0, 5), 0);
        Due.is("nothing met", t.x.windows(0), 131070);
        t.save("b.c.");
        t.save("c.a.");
        t.x.undo();
        t.x.undo();
        t.x.undo();
        Due.is("no hooks", t.x.has(6), 0);
        t.save("h.e.");
        Due.is("two are written", t.x.kept(0, 2), 2);
        t.store("box 70;");
        Due.is("without a border", t.cuts("a.b.c.", PieceStore.NONE), Tried.with("box 80;").cuts("a.b.c.", PieceStore.NONE));
        t.save("a.b.c.");
        Tried other = Tried.with("box 70;");
        other.save("a.b.c.");
        Due.is("without a hook", t.x.has(6), other.x.has(6));
        t.store("box 70;" + POINTS);
        t.save("a.");
        t.save("a.");
        t.store("box 70;least 1;border byte=46;hook day=1;");
        t.save("x.");
        t.save("y.");
        t.x.undo();
        t.x.days(1);
        t.save("y.");
        Due.is("undoing knows this store's index alone", t.x.has(6), 1);
    }

    private static void undoingTwenty() {
        Tried t = Tried.with("box 60;" + POINTS);
        t.save("a.");
        for (int i = 0; i < 25; i++) {
            t.x.days(1);
        }
        Due.is("20 can be undone", t.x.has(10), 20);
        for (int i = 1; i <= 20; i++) {
            Due.is("undo " + i, t.x.undo(), true);
            Due.is("day behind undo " + i, t.x.has(7), 25 - i);
            Due.is("left behind undo " + i, t.x.has(10), 20 - i);
        }
        Due.is("not the 21st", t.x.undo(), false);
        t.x.days(3);
        Due.is("one again", t.x.has(10), 1);
        t.x.undo();
        Due.is("day 5", t.x.has(7), 5);
    }

    private static void undoingIsNoMeeting() {
        Tried t = Tried.with("box 60;" + POINTS);
        t.save("a.");
        t.x.forget(0);
        t.meet(0, 2);
        t.tape("abc");
        t.x.undo();
        Due.is("the meeting stays", t.x.has(9), 1);
        Due.is("the tape stays", t.x.end(3), true);
        Due.is("it counts", t.x.windows(0), 131070);
    }

    private static void seeding() {
        PieceStore x = new PieceStore();
        Due.is("below 0", x.seed(-1), false);
        Due.is("the least int", x.seed(Integer.MIN_VALUE), false);
        Due.is("stays 1", x.has(11), 1);
        Due.is("0", x.seed(0), true);
        Due.is("it is 0", x.has(11), 0);
        Due.is("the most int", x.seed(Integer.MAX_VALUE), true);
        Due.is("it is that", x.has(11), Integer.MAX_VALUE);
        Due.is("refused", x.status(5), 2);
        Due.is("no act", x.has(10), 0);
    }

    private static void refusals() {
        PieceStore x = new PieceStore();
        x.end(5);
        x.store();
        x.store();
        x.days(1);
        x.chance(1);
        x.clean();
        x.cuts(0);
        x.save();
        x.forget(0);
        x.spoil(0, 0);
        x.smash(0);
        x.undo();
        x.undo();
        x.undo();
        x.undo();
        x.seed(-5);
        x.meet();
        int[] want = {1, 2, 3, 5, 4, 2};
        for (int what = 0; what < want.length; what++) {
            Due.is("status(" + what + ")", x.status(what), want[what]);
        }
        Due.is("status(6)", x.status(6), -1);
        Due.is("status(-1)", x.status(-1), -1);
        Due.is("status(most int)", x.status(Integer.MAX_VALUE), -1);
    }
}
