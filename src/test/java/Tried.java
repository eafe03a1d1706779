/** A PieceStore whose tape is told as a text. */
final class Tried {
    final PieceStore x = new PieceStore();

    /** One that has a store already. */
    static Tried with(String text) {
        Tried t = new Tried();
        if (t.store(text) < 0) {
            throw new IllegalArgumentException(text + ": fault " + t.x.fault(0) + " at " + t.x.fault(1));
        }
        return t;
    }

    void tape(String text) {
        for (int[] five : Calls.feeds(text)) {
            x.feed(five[0], five[1], five[2], five[3], five[4]);
        }
        x.end(text.length());
    }

    int store(String text) {
        tape(text);
        return x.store();
    }

    int save(String file) {
        tape(file);
        return x.save();
    }

    int cuts(String file, int k) {
        tape(file);
        return x.cuts(k);
    }

    int meet(int... bytes) {
        StringBuilder s = new StringBuilder();
        for (int b : bytes) {
            s.append((char) b);
        }
        tape(s.toString());
        return x.meet();
    }
}
