import java.util.function.Supplier;
import java.util.function.ToIntFunction;

/** A refused call: its answer, its count, and that all is as it was, seen beside a twin that was not called. */
final class Twins {
    private static final int KINDS = 6;

    private Twins() {
    }

    /** Refused: what it answers, that it alone is counted, and that all else is as it was, also for calls behind it. */
    static void refused(String what, int kind, Supplier<Tried> made, ToIntFunction<Tried> call, int answer) {
        Tried called = made.get();
        Tried twin = made.get();
        Due.is(what, call.applyAsInt(called), answer);
        for (int k = 0; k < KINDS; k++) {
            Due.is(what + ": status(" + k + ")", called.x.status(k), twin.x.status(k) + (k == kind ? 1 : 0));
        }
        same(what, called, twin);
    }

    /** Not to be answered, but not refused either: nothing is counted and all is as it was. */
    static void unanswered(String what, Supplier<Tried> made, ToIntFunction<Tried> call) {
        refused(what, PieceStore.NONE, made, call, PieceStore.NONE);
    }

    /** A question that is answered changes nothing. */
    static void answered(String what, Supplier<Tried> made, ToIntFunction<Tried> call, int answer) {
        refused(what, PieceStore.NONE, made, call, answer);
    }

    private static void same(String what, Tried called, Tried twin) {
        Due.is(what + ": the tape is as it was", called.x.feed(1, 2, 3, 4, 5), twin.x.feed(1, 2, 3, 4, 5));
        called.x.end(0);
        twin.x.end(0);
        showsSame(what, called, twin);
        Due.is(what + ": undo() behind it", called.x.undo(), twin.x.undo());
        Due.is(what + ": save() behind it", called.save("a.n.c."), twin.save("a.n.c."));
        showsSame(what + ", undo(), save()", called, twin);
    }

    /** Both tell the same by all questions. */
    static void showsSame(String what, Tried called, Tried twin) {
        String shown = shown(called.x);
        String due = shown(twin.x);
        Due.is(what + ": all is as it was (" + shown + " for " + due + ")", shown.equals(due), true);
    }

    /** Both tell the same now, and answer the same in all that is done with them from now on. */
    static void liveAlike(String what, Tried one, Tried other) {
        String lived = life(one);
        String due = life(other);
        Due.is(what + ": the same answers (" + lived + " for " + due + ")", lived.equals(due), true);
    }

    private static String life(Tried t) {
        StringBuilder s = new StringBuilder(shown(t.x));
        for (String file : new String[] {"a.b.c.a.", "c.x." + "y".repeat(28) + ".", "b.c.a.d.d.", "the ice of the lake.", "a.x."}) {
            s.append(t.save(file)).append(' ').append(t.x.has(2)).append(' ').append(t.x.has(4)).append(' ').append(t.x.has(6)).append(' ');
        }
        s.append(t.x.spoil(0, 1)).append(t.x.forget(1)).append(t.x.days(2)).append(t.x.gain(0)).append(t.x.gain(1));
        s.append(t.x.clean()).append('|').append(t.x.undo()).append(t.x.smash(0)).append(t.x.forget(0)).append(t.x.clean());
        s.append(t.save("d.c.b.a.")).append('|').append(shown(t.x));
        for (int i = 0; i < 6; i++) {
            s.append(t.x.undo()).append(t.x.has(2)).append(' ').append(t.x.has(6)).append(' ').append(t.x.piece(0, 1, 2)).append(' ');
        }
        return s.append(t.cuts("a.b.c.", 0)).append(t.save("c.b.a.")).append(' ').append(t.x.has(2)).append(shown(t.x)).toString();
    }

    /** What an object tells by its questions, but for the counts of what was refused. */
    private static String shown(PieceStore x) {
        StringBuilder s = new StringBuilder();
        for (int what = 0; what <= 11; what++) {
            s.append(x.has(what)).append(' ');
        }
        s.append('|').append(x.fault(0)).append(' ').append(x.fault(1)).append('|');
        for (int b = 0; b < 3; b++) {
            backup(x, b, s);
        }
        for (int box = 0; box < 3; box++) {
            for (int what = 0; what < 6; what++) {
                s.append(x.box(box, what)).append(' ');
            }
        }
        s.append('|').append(x.gain(0)).append(' ').append(x.later(1, 2)).append(' ').append(x.later(9, 0)).append('|');
        for (int k = 0; k < 3; k++) {
            s.append(x.kept(k, 0)).append(' ').append(x.kept(k, 2)).append(' ');
        }
        return s.toString();
    }

    private static void backup(PieceStore x, int b, StringBuilder s) {
        for (int what = 0; what < 3; what++) {
            s.append(x.backup(b, what)).append(' ').append(x.why(b, what)).append(' ');
        }
        for (int k = 0; k < 3; k++) {
            s.append(x.octet(b, 2 * k)).append(' ');
            for (int what = 1; what < 5; what++) {
                s.append(x.piece(b, k, what)).append(' ');
            }
        }
        s.append(x.expires(b)).append(' ').append(x.odds(b)).append(' ').append(x.windows(b)).append(' ').append(x.fetches(b, 0)).append('|');
    }

    // ---- what the calls are made on

    /** Without a store; the seed is not the first one. */
    static Tried bare() {
        Tried t = new Tried();
        t.x.seed(77);
        return t;
    }

    /** A store of which nothing is saved. */
    static Tried quiet() {
        return Tried.with("box 60;segs 2;champs 2;desk 1;keep 9;rot 50;least 1;most 60;border byte=46;hook all;");
    }

    /** One backup in one box, nothing undone. */
    static Tried quietOne() {
        Tried t = quiet();
        t.save("a.b.");
        return t;
    }

    /** Two backups, a free number between them, three boxes, one broken, a piece spoiled, a row met, acts and a day. */
    static Tried rich() {
        Tried t = quiet();
        t.x.seed(5);
        t.save("a.b.c.");
        t.save("x".repeat(58) + ".");
        t.x.days(2);
        t.save("b.a." + "y".repeat(57) + ".");
        t.x.forget(1);
        t.x.smash(1);
        t.x.spoil(0, 1);
        t.meet(0, 2);
        return t;
    }

    /** Day 999, one backup, saved on it. */
    static Tried late() {
        Tried t = quiet();
        for (int i = 0; i < 24; i++) {
            t.x.days(40);
        }
        t.x.days(39);
        t.save("a.b.");
        return t;
    }
}
