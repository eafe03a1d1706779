/** Terms I and the promises 1 to 5: a new object, the tape, the text of a store, its small language, its FAULTS. */
final class EdgesOfText {
    private static final int MOST_INT = Integer.MAX_VALUE;
    private static final int LEAST_INT = Integer.MIN_VALUE;

    private EdgesOfText() {
    }

    static void all() {
        newObject();
        feeding();
        ending();
        storing();
        asksForFaults();
        statements();
        numbersOfStatements();
        lastOfEach();
        blanks();
        textFaults();
        longWordsAndNumbers();
        numberFaults();
        depthFaults();
        kindFaults();
    }

    // ---- helpers

    /** A text that is a store, on a new object. */
    private static void taken(String text, int statements) {
        Tried t = new Tried();
        Due.is("store of " + text, t.store(text), statements);
        Due.is("fault(0) of " + text, t.x.fault(0), 0);
        Due.is("fault(1) of " + text, t.x.fault(1), PieceStore.NONE);
        Due.is("refused by " + text, t.x.status(1), 0);
    }

    private static void fault(String text, int kind, int place) {
        Tried t = new Tried();
        Due.is("store of " + text, t.store(text), PieceStore.NONE);
        Due.is("fault(0) of " + text, t.x.fault(0), kind);
        Due.is("fault(1) of " + text, t.x.fault(1), place);
        Due.is("refused by " + text, t.x.status(1), 1);
        Due.is("a store by " + text, t.x.has(0), 0);
    }

    private static String file(int... bytes) {
        StringBuilder s = new StringBuilder();
        for (int b : bytes) {
            s.append((char) b);
        }
        return s.toString();
    }

    /** The bytes of a backup's file are these. */
    private static void octetsAre(String what, Tried t, int backup, int... want) {
        Due.is(what + ": bytes", t.x.backup(backup, 1), want.length);
        for (int k = 0; k < want.length; k++) {
            Due.is(what + ": byte " + k, t.x.octet(backup, k), want[k]);
        }
    }

    // ---- promises 1 to 5

    private static void newObject() {
        Edge.of(1, "NONE = -1: None; refused.", () -> Due.is("NONE", PieceStore.NONE, -1));
        Edge.of(1, "No store, nothing saved; the seed is 1.", () -> {
            Tried.with("box 60;").x.seed(9);
            PieceStore x = new PieceStore();
            for (int what = 0; what <= 10; what++) {
                Due.is("has(" + what + ")", x.has(what), 0);
            }
            Due.is("has(11)", x.has(11), 1);
            for (String name : new String[] {"backup", "piece", "box", "octet", "shared", "edit", "why", "fetches", "later", "expires",
                "gain", "odds", "windows", "tells", "kept"}) {
                Due.is(name, Calls.on(x, name, new int[Calls.arity(name)]), PieceStore.NONE);
            }
            Due.is("odds(NONE)", x.odds(PieceStore.NONE), PieceStore.NONE);
            for (int what = 0; what < 6; what++) {
                Due.is("status(" + what + ")", x.status(what), 0);
            }
            for (String name : new String[] {"cuts", "days", "chance"}) {
                Due.is(name, Calls.on(x, name, 1), PieceStore.NONE);
            }
            for (String name : new String[] {"meet", "save", "clean"}) {
                Due.is(name, Calls.on(x, name), PieceStore.NONE);
            }
            Due.is("forget, spoil, smash, undo", x.forget(0) || x.spoil(0, 0) || x.smash(0) || x.undo(), false);
            Due.is("end(0): the tape is empty", x.end(0), true);
            Due.is("end(1): the tape is empty", x.end(1), false);
        });
    }

    private static void feeding() {
        Edge.of(2, "Twenty bytes come behind those on the tape, of each number the highest first", () -> {
            Tried t = Tried.with("box 60;least 30;");
            t.x.feed(0x01020304, -1, LEAST_INT, MOST_INT, 0);
            t.x.end(19);
            t.x.feed(-2, 0x00ff00ff, 0x80, 0x8000, 0x800000);
            t.x.save();
            octetsAre("two feeds", t, 0, 1, 2, 3, 4, 255, 255, 255, 255, 128, 0, 0, 0, 127, 255, 255, 255, 0, 0, 0,
                255, 255, 255, 254, 0, 255, 0, 255, 0, 0, 0, 128, 0, 0, 128, 0, 0, 128, 0, 0);
        });
        Edge.of(2, "how many there are", () -> {
            PieceStore x = new PieceStore();
            Due.is("the first feed", x.feed(1, 2, 3, 4, 5), 20);
            Due.is("the second", x.feed(1, 2, 3, 4, 5), 40);
            x.end(1);
            Due.is("behind one byte", x.feed(1, 2, 3, 4, 5), 21);
            x.end(0);
            Due.is("behind none", x.feed(1, 2, 3, 4, 5), 20);
        });
        Edge.of(2, "NONE, refused (0), if there would be more than 1600.", () -> {
            Due.is("1600 in all", filled(1580).x.feed(0, 0, 0, 0, 0), 1600);
            Due.is("none refused", filled(1580).x.status(0), 0);
            for (int ahead : new int[] {1581, 1599, 1600}) {
                Twins.refused("feed behind " + ahead, 0, () -> filled(ahead), t -> t.x.feed(1, 2, 3, 4, 5), PieceStore.NONE);
                Tried t = filled(ahead);
                t.x.feed(1, 2, 3, 4, 5);
                t.x.store();
                Due.is("the tape has blanks alone, so many", t.x.fault(1), ahead);
            }
        });
    }

    /** So many blanks on the tape. */
    private static Tried filled(int bytes) {
        Tried t = new Tried();
        t.tape(" ".repeat(bytes));
        return t;
    }

    private static void ending() {
        Edge.of(3, "The tape has its first n bytes alone: true", () -> {
            for (int n = 0; n <= 20; n += n == 1 ? 17 : 1) {
                Tried t = Tried.with("box 60;least 30;");
                t.tape("abcdefghijklmnopqrst");
                Due.is("end(" + n + ") of 20", t.x.end(n), true);
                Due.is("again", t.x.end(n), true);
                Due.is("as many are there", t.x.end(n + 1), false);
                t.x.save();
                Due.is("bytes", t.x.backup(0, 1), n == 0 ? PieceStore.NONE : n);
                Due.is("the first", t.x.octet(0, 0), n == 0 ? PieceStore.NONE : 'a');
                Due.is("the last", t.x.octet(0, n - 1), n == 0 ? PieceStore.NONE : 'a' + n - 1);
            }
            Tried t = filled(1600);
            Due.is("end(1600) of 1600", t.x.end(1600), true);
        });
        Edge.of(3, "false, refused (0), if it has not so many, or n is below 0.", () -> {
            for (int n : new int[] {21, 1600, 1601, MOST_INT, -1, -20, LEAST_INT}) {
                Twins.refused("end(" + n + ") of 20", 0, EdgesOfText::twenty, t -> t.x.end(n) ? 1 : 0, 0);
                Tried t = twenty();
                t.x.end(n);
                t.x.save();
                Due.is("the tape has all its bytes", t.x.backup(0, 1), 20);
            }
            Twins.refused("end(1) of nothing", 0, Tried::new, t -> t.x.end(1) ? 1 : 0, 0);
            Twins.refused("end(-1) of nothing", 0, Tried::new, t -> t.x.end(-1) ? 1 : 0, 0);
            Due.is("end(0) of nothing", new PieceStore().end(0), true);
        });
    }

    private static Tried twenty() {
        Tried t = Tried.with("box 60;least 30;");
        t.tape("abcdefghijklmnopqrst");
        return t;
    }

    private static void storing() {
        Edge.of(4, "The tape (it goes) is THE STORE: how many STATEMENTS", () -> {
            Tried t = new Tried();
            Due.is("one", t.store("box 60;"), 1);
            Due.is("the tape is empty", t.x.end(1), false);
            Due.is("two of a kind are two", t.store("box 60;least 4;least 4;hook all;"), 4);
            Due.is("forty", t.store("box 60;" + "rot 5;".repeat(39)), 40);
            t.tape("box 60;rot 5; ");
            t.x.end(7);
            Due.is("what is on the tape alone", t.x.store(), 1);
        });
        Edge.of(4, "NONE, refused (1), with a FAULT (all stays).", () -> {
            String[] wrong = {"", "box 60", "box 59;", "box 60;hook ((((((((1", "box 60;hook all;hook all;", "box 61;window 3;window 0;"};
            for (String text : wrong) {
                Twins.refused("store of " + text, 1, () -> faulty(text), t -> t.store(text), PieceStore.NONE);
            }
            Tried t = Tried.with("box 60;least 4;border all;");
            t.store("box 70;least 5;border not all");
            Due.is("the box of the store that stands", t.x.has(0), 60);
            Due.is("its numbers and its test", t.cuts("abcdefgh", 0), 4);
        });
        Edge.of(4, "Without one all is as at first, nothing is saved, KEPT or MET, no ACT can be undone; the seed stays.", () -> {
            Tried t = Twins.rich();
            t.x.seed(4711);
            t.store("box 200;");
            int[] want = {200, 0, 0, 0, 0, 0, 0, 0, 0, 0, 0, 4711};
            for (int what = 0; what < want.length; what++) {
                Due.is("has(" + what + ")", t.x.has(what), want[what]);
            }
            Due.is("kept(0, 0)", t.x.kept(0, 0), PieceStore.NONE);
            Due.is("backup(0, 0)", t.x.backup(0, 0), PieceStore.NONE);
            Due.is("undo()", t.x.undo(), false);
            Due.is("least is 3 again, most 30, and there is no border", t.cuts("\u0001\u0001.\u0001", 0), 4);
            t.save("a.b.c.");
            Due.is("keep is 0 again", t.x.expires(0), PieceStore.NONE);
            Due.is("rot is 0 again", t.x.odds(0), 100);
            Due.is("nothing met", t.x.windows(0), 131070);
            Due.is("one act", t.x.has(10), 1);
            Due.is("the first save that is kept", t.x.kept(0, 0), 0);
            Due.is("and none behind it", t.x.kept(1, 0), PieceStore.NONE);
            String all = "box 200;window 9;least 7;normal 20;most 60;segs 1;champs 0;desk 6;keep 3;rot 9;border all;hook all;clean all;";
            String points = "box 60;least 1;segs 2;champs 1;border byte=46;hook all;clean dead>0;";
            for (String text : new String[] {"box 60;", points}) {
                Tried two = Tried.with(all);
                two.store(all + "!");
                two.store(text);
                Twins.liveAlike("numbers and tests of others are gone, " + text, two, Tried.with(text));
                Tried three = Tried.with(points);
                three.save("zz." + "z".repeat(29) + "." + "z".repeat(28) + ".");
                three.save("a.b.c.d.a.b.c.d.");
                three.x.smash(0);
                three.x.spoil(1, 0);
                three.x.forget(0);
                three.x.gain(0);
                three.x.clean();
                three.store(text);
                Twins.liveAlike("pieces, boxes, hooks of the store ahead are gone, " + text, three, Tried.with(text));
                Tried four = Tried.with(points);
                four.save("a.b.c.");
                four.store(points);
                four.save("c.b.");
                four.x.undo();
                Twins.liveAlike("so they are behind undo()", four, Tried.with(points));
                String second = "box 60;least 1;segs 4;border byte=46;hook place=1 or place=3;";
                Tried five = Tried.with(points);
                five.save("a.b.");
                five.save("a.b.");
                five.store(second);
                five.save("c.b.a.d.");
                five.x.undo();
                Twins.liveAlike("undo() knows the index of this store alone", five, Tried.with(second));
            }
        });
    }

    /** As rich, its latest store() being one with the fault of that text: so a refused one changes nothing at all. */
    private static Tried faulty(String text) {
        Tried t = Twins.rich();
        t.store(text);
        return t;
    }

    private static void asksForFaults() {
        Edge.of(5, "Of the latest store(): its FAULT (what 0; 0 without, and ahead of any), its place (1; NONE without).", () -> {
            Tried t = new Tried();
            Due.is("ahead of any, 0", t.x.fault(0), 0);
            Due.is("ahead of any, 1", t.x.fault(1), PieceStore.NONE);
            t.store("box 59;");
            Due.is("with a fault, 0", t.x.fault(0), 4);
            Due.is("with a fault, 1", t.x.fault(1), 4);
            t.store("  ");
            Due.is("the latest, 0", t.x.fault(0), 1);
            Due.is("the latest, 1", t.x.fault(1), 2);
            t.store("box 60;");
            Due.is("without, 0", t.x.fault(0), 0);
            Due.is("without, 1", t.x.fault(1), PieceStore.NONE);
            t.store(";");
            t.x.days(1);
            t.cuts("", 0);
            Due.is("other calls leave it, 0", t.x.fault(0), 1);
            Due.is("a place of 0", t.x.fault(1), 0);
        });
        Edge.of(5, "NONE for another what.", () -> {
            for (int what : new int[] {2, -1, 4, MOST_INT, LEAST_INT}) {
                Twins.unanswered("fault(" + what + ")", () -> faulty("box 59;"), t -> t.x.fault(what));
            }
        });
    }

    // ---- Terms I: statements

    private static void statements() {
        Edge.of(4, "{ STATEMENT ; } (40 at most)", () -> {
            taken("box 60;" + "rot 5;".repeat(38), 39);
            taken("box 60;" + "rot 5;".repeat(39), 40);
            fault("box 60;" + "rot 5;".repeat(40), 6, 7 + 39 * 6);
            fault("box 60", 1, 6);
            fault("box 60;;", 1, 7);
            fault("box 60;rot 5", 1, 12);
        });
        Edge.of(4, "box N (60 .. 200 bytes; the first STATEMENT, and it alone)", () -> {
            taken("box 60;", 1);
            taken("box 200;", 1);
            fault("box 59;", 4, 4);
            fault("box 201;", 4, 4);
            fault("box 0;", 4, 4);
            fault("box 9999;", 4, 4);
            fault("rot 5;", 1, 0);
            fault("rot 5;box 60;", 1, 0);
            fault("border all;", 1, 0);
            fault("box 60;box 60;", 1, 7);
            fault("box 60;rot 5;box 61;", 1, 13);
            for (int box = 60; box <= 200; box += 140) {
                Due.is("so many bytes", Tried.with("box " + box + ";").x.has(0), box);
            }
        });
        Edge.of(4, "border TEST, hook TEST, clean TEST (one each)", () -> {
            taken("box 60;border all;", 2);
            taken("box 60;hook all;", 2);
            taken("box 60;clean all;", 2);
            taken("box 60;clean all;hook all;border all;", 4);
            fault("box 60;border;", 1, 13);
            fault("box 60;hook 1;", 1, 13);
        });
    }

    private static void numbersOfStatements() {
        Edge.of(4, "window N (1 .. 16; 4 without)", () -> bounds("window", 1, 16, 4));
        Edge.of(4, "least N (1 .. 30; 3 without)", () -> bounds("least", 1, 30, 3));
        Edge.of(4, "normal N (1 .. 60; 8 without)", () -> bounds("normal", 1, 60, 8));
        Edge.of(4, "most N (30 .. 60; 30 without)", () -> bounds("most", 30, 60, 30));
        Edge.of(4, "segs N (1 .. 8; 4 without)", () -> bounds("segs", 1, 8, 4));
        Edge.of(4, "champs N (0 .. 4; 2 without)", () -> bounds("champs", 0, 4, 2));
        Edge.of(4, "desk N (1 .. 6; 2 without)", () -> bounds("desk", 1, 6, 2));
        Edge.of(4, "keep N (0 .. 99; 0 without)", () -> bounds("keep", 0, 99, 0));
        Edge.of(4, "rot N (0 .. 100; 0 without)", () -> bounds("rot", 0, 100, 0));
    }

    /** The least and the most are taken, and count; those beside them are not; without it, it is as told. */
    private static void bounds(String name, int least, int most, int without) {
        String ahead = "box 60;" + name + " ";
        taken(ahead + least + ";", 2);
        taken(ahead + most + ";", 2);
        if (least > 0) {
            fault(ahead + (least - 1) + ";", 4, ahead.length());
        }
        fault(ahead + (most + 1) + ";", 4, ahead.length());
        fault(ahead + "9999;", 4, ahead.length());
        for (int n = least; n <= most; n++) {
            Due.is(name + " " + n + " counts", probe(name, name + " " + n + ";"), probed(name, n));
            Due.is(name + " " + n + " is not like " + (n + 1), probed(name, n) != probed(name, n + 1), true);
        }
        Due.is("without " + name, probe(name, ""), probed(name, without));
    }

    private static void lastOfEach() {
        Edge.of(4, "the last one of each counts", () -> {
            String[] names = {"window", "least", "normal", "most", "segs", "champs", "desk", "keep", "rot"};
            for (String name : names) {
                String two = name + " 31;" + name + " 30;";
                int first = 31;
                int last = 30;
                if (!name.equals("most")) {
                    two = name + " 1;rot 7;keep 7;" + name + " 4;" + name + " 3;";
                    first = 1;
                    last = 3;
                }
                Due.is("two of " + name, probe(name, two), probed(name, last));
                Due.is("not the first " + name, probed(name, last) != probed(name, first), true);
            }
        });
    }

    /** Something that the object answers by which a number of the store can be seen. */
    private static int probe(String name, String statements) {
        switch (name) {
            case "window": {
                Tried t = Tried.with("box 60;least 1;border sum%5=0;" + statements);
                t.save(VARIED);
                int mixed = 0;
                for (int k = 0; k < t.x.backup(0, 2); k++) {
                    mixed = 31 * mixed + t.x.piece(0, k, 0);
                }
                return mixed;
            }
            case "least": return Tried.with("box 60;most 60;border all;" + statements).cuts("a".repeat(99), 0);
            case "normal": return Tried.with("box 60;least 1;most 60;border length=normal;" + statements).cuts("a".repeat(99), 0);
            case "most": return Tried.with("box 60;border not all;" + statements).cuts("a".repeat(99), 0);
            case "segs": {
                Tried t = Tried.with("box 60;least 1;champs 0;border byte=46;" + statements);
                t.save("a.".repeat(120));
                return t.x.has(2);
            }
            case "champs": {
                Tried t = Tried.with("box 60;least 1;segs 8;border byte=46;hook all;" + statements);
                for (char c = 'a'; c < 'f'; c++) {
                    t.save(c + ".");
                }
                t.save("a.b.c.d.e.");
                return t.x.kept(5, 2);
            }
            case "desk": return fetchedAgain(statements);
            case "keep": return daysKept(statements);
            default: {
                Tried t = Tried.with("box 60;" + statements);
                t.save("abc");
                return t.x.odds(0);
            }
        }
    }

    /** What is due there for a number. */
    private static int probed(String name, int n) {
        switch (name) {
            case "window": return lengthsByWindow(n);
            case "segs": return (120 + n - 1) / n;
            case "champs": return 5 - n;
            case "desk": return 7 - n;
            case "rot": return 100 - n;
            default: return n;
        }
    }

    private static final String VARIED = "the ice of the lake is blue, salt is kept apart; none of theirs 0123456789";

    /** All lengths of its pieces in one number. */
    private static int lengthsByWindow(int window) {
        int mixed = 0;
        int length = 0;
        for (int i = 0; i < VARIED.length(); i++) {
            int sum = 0;
            for (int j = Math.max(0, i - window + 1); j <= i; j++) {
                sum = (31 * sum + VARIED.charAt(j)) % 1009;
            }
            length++;
            if (sum % 5 == 0 || length == 30 || i == VARIED.length() - 1) {
                mixed = 31 * mixed + length;
                length = 0;
            }
        }
        return mixed;
    }

    /** How often A is fetched again behind 1, 2 .. 6 other boxes: by plan 0, when as many as the desk has were between. */
    private static int fetchedAgain(String statements) {
        Tried t = Tried.with("box 60;least 1;most 60;segs 1;champs 1;border byte=46;hook all;" + statements);
        StringBuilder file = new StringBuilder("A".repeat(30) + ".");
        int again = 0;
        for (int others = 1; others <= 6; others++) {
            file.append(String.valueOf((char) ('A' + others)).repeat(30)).append('.');
            int backup = t.save(file + "A".repeat(30) + ".");
            again += t.x.fetches(backup, 0) - (others + 1);
        }
        return again;
    }

    /** Behind how many days a backup is no more; 0 when it stays. */
    private static int daysKept(String statements) {
        Tried t = Tried.with("box 60;" + statements);
        t.save("abc");
        for (int n = 1; n <= 110; n++) {
            if (t.x.days(1) == 1) {
                return n;
            }
        }
        return 0;
    }

    // ---- Terms I: blanks, faults

    private static final String[] TOKENS = {"box", "60", ";", "border", "not", "[", "if", "(", "length", "<", "normal", ",", "sum", ",", "min",
        "(", "byte", ",", "max", "(", "1", ",", "22", ")", ")", ")", "%", "3", "=", "0", "and", "all", "or", "(", "day", "+", "1", ")", "*", "2",
        "-", "3", "/", "1", ">", "4444", "]", ";", "keep", "9", ";"};

    private static boolean inWord(String token) {
        return Character.isLetterOrDigit(token.charAt(0));
    }

    private static void blanks() {
        Edge.of(4, "Blanks (10, 32) are where one likes", () -> {
            for (String blank : new String[] {" ", "\n", " \n\n  "}) {
                taken(blank + String.join(blank, TOKENS) + blank, 3);
            }
            for (int c : new int[] {0, 1, 9, 11, 12, 13, 31, 33, 127, 128, 133, 160, 255}) {
                fault((char) c + "box 60;", 1, 0);
                fault("box" + (char) c + "60;", 1, 3);
                fault("box 60" + (char) c + ";", 1, 6);
                fault("box 60;" + (char) c, 1, 7);
                fault("box 60;hook 1" + (char) c + "<2;", 1, 13);
            }
            fault("bo x 60;", 1, 0);
            fault("box 6 0;", 4, 4);
            fault("box 60;hook 1 2<3;", 1, 14);
        });
        Edge.of(4, "(words and numbers side by side need one)", () -> {
            StringBuilder tight = new StringBuilder();
            for (int i = 0; i < TOKENS.length; i++) {
                tight.append(i > 0 && inWord(TOKENS[i - 1]) && inWord(TOKENS[i]) ? " " : "").append(TOKENS[i]);
            }
            taken(tight.toString(), 3);
            fault("box60;", 1, 3);
            fault("box 60window 3;", 1, 6);
            fault("box 60;window3;", 1, 13);
            fault("box 60;hook 1<2and all;", 1, 15);
            fault("box 60;hook not1<2;", 1, 15);
            fault("box 60;hook 1<2 and3<4;", 1, 19);
            fault("box 60;notall;", 1, 7);
            fault("box 60;hook notall;", 1, 12);
            fault("box 60;hook all and notall;", 1, 20);
            fault("box 60;hook orall;", 1, 12);
            fault("box 60;hook(1)<2and all;", 1, 16);
            taken("box 60;hook[all]and[all]or not(1)<2;", 2);
        });
    }

    /** All that a text has of itself: what is wrong with it, and where, by how many of its bytes are there. */
    private static void textFaults() {
        Edge.of(5, "FAULTS, the first along the text: 1 the first byte with which no STORE goes on", () -> {
            fault("box 60;rot 101;least;", 4, 11);
            fault("box 60;least;rot 101;", 1, 12);
            fault("box 60;hook all;hook 12345;", 6, 16);
            fault("box 60;hook 12345;hook all;", 1, 16);
            fault("box 60;hook ((((((((1;rot 101;", 5, 19);
            fault("box 60;rot 101;hook ((((((((1;", 4, 11);
            fault("box 60;hook 1<=2;", 1, 14);
            fault("box 60;hook 1==2;", 1, 14);
            fault("box 60;hook all]", 1, 15);
            fault("box 60;hook 1+<2;", 1, 14);
            fault("box 60;hook ()<2;", 1, 13);
            fault("box 60;hook [];", 1, 13);
            fault("box 60;hook min(1;2)", 1, 17);
            fault("box 60;hook if(1,2,3)=1;", 1, 16);
            fault("box 60;hook 1<2>3;", 1, 15);
        });
        Edge.of(5, "(words and numbers whole, at their first byte", () -> {
            fault("b", 1, 0);
            fault("bo", 1, 0);
            fault("boxx", 1, 0);
            fault("boxa 60;", 1, 0);
            fault("boxz 60;", 1, 0);
            fault("zzzzzz", 1, 0);
            fault("box 60;windo", 1, 7);
            fault("box 60;windov 3;", 1, 7);
            fault("box 60;hook al;", 1, 12);
            fault("box 60;hook alls;", 1, 12);
            fault("box 60;hook lengty=1;", 1, 12);
            fault("box 60;5 all;", 1, 7);
            fault("box 60;1234", 1, 7);
            fault("box 60;hook all 1234;", 1, 16);
            fault("box 60;hook print print;", 1, 18);
            fault("box 60 least 3;", 1, 7);
        });
        Edge.of(5, "at the text's length, if it ends too soon", () -> {
            int[] kinds = {1, 1, 1, 1, 1, 4, 1, 0, 1, 1, 1, 1, 1, 1, 1, 1, 1, 1, 1, 1, 1, 0};
            int[] places = {0, 0, 0, 3, 4, 4, 6, 0, 7, 7, 7, 11, 12, 12, 12, 15, 16, 17, 18, 19, 20, 0};
            String text = "box 60;hook not[1<2];";
            for (int n = 0; n <= text.length(); n++) {
                if (kinds[n] == 0) {
                    taken(text.substring(0, n), n == 7 ? 1 : 2);
                } else {
                    fault(text.substring(0, n), kinds[n], places[n]);
                }
            }
            fault("box  \n", 1, 6);
            fault("box 60 ", 1, 7);
            fault("box 60;hook all ", 1, 16);
            fault("box 60;hook (1", 1, 14);
            fault("box 60;hook if(all,1", 1, 20);
        });
        Edge.of(5, "a text without a STATEMENT has FAULT 1 at its length", () -> {
            fault("", 1, 0);
            fault(" ", 1, 1);
            fault("\n", 1, 1);
            fault(" ".repeat(1600), 1, 1600);
        });
    }

    private static void longWordsAndNumbers() {
        Edge.of(5, "a 7th letter, a 5th digit at itself, whatever may stand there)", () -> {
            fault("windows", 1, 6);
            fault("normal", 1, 0);
            fault("abcdefghijklmnop", 1, 6);
            fault("azazaza", 1, 6);
            fault("zazazaz", 1, 6);
            fault("box 09090;", 1, 8);
            fault("box 90909;", 1, 8);
            fault("12345", 1, 4);
            fault("1234", 1, 0);
            fault("box 60;normals 3;", 1, 13);
            fault("box 60;borders", 1, 13);
            fault("box 60;abcdef", 1, 7);
            fault("box 60 aaaaaaaa", 1, 13);
            fault("box aaaaaaa", 1, 10);
            fault("box 60;12345", 1, 11);
            fault("box 60;hook all 12345;", 1, 20);
            fault("box 60;hook lengthy=1;", 1, 18);
            fault("box 60;hook 1=lengthy;", 1, 20);
            fault("box 60;hook 12345=1;", 1, 16);
            fault("box 60;hook 1=00001;", 1, 18);
            fault("box 60;hook all;hooking", 1, 22);
        });
        Edge.of(4, "NUMBERS: 1 to 4 digits.", () -> {
            taken("box 60;window 1;", 2);
            taken("box 060;window 01;", 2);
            taken("box 0060;window 0001;", 2);
            fault("box 00060;", 1, 8);
            fault("box 60;window 00001;", 1, 18);
            taken("box 60;hook 0<1;", 2);
            taken("box 60;hook 0000<9999;", 2);
            fault("box 60;hook 0<10000;", 1, 18);
            fault("box ;", 1, 4);
        });
    }

    private static void numberFaults() {
        Edge.of(5, "4 a NUMBER that can't be, at its first byte", () -> {
            fault("box 59", 4, 4);
            fault("box\n \n201;", 4, 6);
            fault("box 0;", 4, 4);
            fault("box 60;rot 0101;", 4, 11);
            fault("box 60;window 3;window 0;", 4, 23);
            fault("box 59 nonsense", 4, 4);
            fault("box 60;most 61 most 62;", 4, 12);
            taken("box 60;hook 9999=0;", 2);
        });
    }

    private static void depthFaults() {
        Edge.of(5, "5 the 8th ( [ not that is open at once", () -> {
            taken("box 60;hook (((((((1)))))))=1;", 2);
            fault("box 60;hook ((((((((1))))))))=1;", 5, 19);
            taken("box 60;hook [[[[[[[all]]]]]]];", 2);
            fault("box 60;hook [[[[[[[[all]]]]]]]];", 5, 19);
            taken("box 60;hook " + "not ".repeat(7) + "all;", 2);
            fault("box 60;hook " + "not ".repeat(8) + "all;", 5, 40);
            taken("box 60;hook not[not[not[(1)<2]]];", 2);
            fault("box 60;hook not[not[not[not(1)<2]]];", 5, 27);
            fault("box 60;hook not[not[not[((1))<2]]];", 5, 25);
            taken("box 60;hook not[not[not[[all]]]];", 2);
            fault("box 60;hook [[[[[[[not all]]]]]]];", 5, 19);
            fault("box 60;hook [[[[[[[(1)=1]]]]]]];", 5, 19);
            fault("box 60;hook [[[[[[[1=min(1,2)]]]]]]];", 5, 24);
            fault("box 60;hook [[[[[[[1=max(1,2)]]]]]]];", 5, 24);
            fault("box 60;hook [[[[[[[1=if(all,1,2)]]]]]]];", 5, 23);
            taken("box 60;hook [[[[[[1=min(1,2)]]]]]];", 2);
            taken("box 60;hook if(if(if(if(if(if(if(all,1,2)=1,1,2)=1,1,2)=1,1,2)=1,1,2)=1,1,2)=1,1,2)=1;", 2);
            fault("box 60;hook (((((((1(", 1, 20);
            fault("box 60;hook if((((((((1))))))))<2,1,2)=1;", 5, 21);
            fault("box 60;hook if(not not not not not not not all,1,2)=1;", 5, 39);
            fault("box 60;hook min(min(((((((1,2),2)=1;", 5, 25);
            fault("box 60;hook if(all,1,if(all,2,((((((3", 5, 35);
        });
        Edge.of(5, "at once (not until its FACT ends), at it", () -> {
            taken("box 60;hook not not not not not not not all and not not not not not not not all or not (1)=1;", 2);
            taken("box 60;hook not not not not not not not 1=1 and (1)=1;", 2);
            fault("box 60;hook not not not not not not not 1=(1);", 5, 42);
            fault("box 60;hook not not not not not not not (1)=1;", 5, 40);
            taken("box 60;hook [[[[[[[all]]]]]]] and [[[[[[[all]]]]]]];", 2);
            taken("box 60;hook (((((((1)))))))=(((((((1)))))))+(((((((1)))))));", 2);
            taken("box 60;hook not[all and not all]or[[[[[[(1)=1]]]]]];", 2);
            taken("box 60;hook [[[[[[[all]]]]]]];border [[[[[[[all]]]]]]];clean [[[[[[[all]]]]]]];", 4);
            Tried t = new Tried();
            t.store("box 60;hook ((((((((1");
            Due.is("none is open behind a fault", t.store("box 60;hook (((((((1)))))))=1;"), 2);
        });
    }

    private static void kindFaults() {
        Edge.of(5, "6 one too many of a kind of STATEMENT (a second border, hook, clean)", () -> {
            for (String kind : new String[] {"border", "hook", "clean"}) {
                String ahead = "box 60;" + kind + " all;rot 3; ";
                fault(ahead + kind + " all;", 6, ahead.length());
                fault(ahead + kind, 6, ahead.length());
                fault(ahead + kind + " 12345", 6, ahead.length());
            }
            taken("box 60;rot 3;rot 3;rot 3;", 4);
            fault("box 60;hook all;box 60;", 1, 16);
        });
        Edge.of(5, "or the 41st STATEMENT (whatever it is), at its first byte", () -> {
            String forty = "box 60;border all;hook all;" + "rot 5;".repeat(37);
            for (String last : new String[] {"rot 5;", "rot 101;", "rot;", "box 60;", "border all;", "hook 1;", "clean all;"}) {
                fault(forty + last, 6, forty.length());
                fault(forty + " \n" + last, 6, forty.length() + 2);
            }
            taken(forty, 40);
            taken(forty + " \n ", 40);
            fault("box 60;border all;hook all;" + "rot 5;".repeat(36) + "rot 101;rot 5;", 4, 7 + 11 + 9 + 36 * 6 + 4);
        });
    }
}
