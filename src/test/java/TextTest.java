/** Promises 1 to 5: a new object, the tape, the text of a store, its faults; and what the small language means. */
public final class TextTest {
    private static final String[] ZERO_BOUND = {"champs", "keep", "rot"};

    public static void main(String[] args) {
        newObject();
        feeding();
        ending();
        storing();
        faultsOfText();
        faultsOfMissingBlanks();
        faultsOfNumbers();
        faultsOfDepth();
        faultsOfKinds();
        lastNumberCounts();
        sums();
        tests();
        factsOfBorder();
        Due.ends("TextTest");
    }

    private static void newObject() {
        PieceStore x = new PieceStore();
        for (int what = 0; what <= 10; what++) {
            Due.is("new has(" + what + ")", x.has(what), 0);
        }
        Due.is("new has(11)", x.has(11), 1);
        for (int what = 0; what <= 5; what++) {
            Due.is("new status(" + what + ")", x.status(what), 0);
        }
        Due.is("new fault(0)", x.fault(0), 0);
        Due.is("new fault(1)", x.fault(1), -1);
        Due.is("new kept", x.kept(0, 0), -1);
        Due.is("NONE", PieceStore.NONE, -1);
    }

    private static void feeding() {
        PieceStore x = new PieceStore();
        for (int i = 1; i <= 80; i++) {
            Due.is("feed " + i, x.feed(0, 0, 0, 0, 0), 20 * i);
        }
        Due.is("feed beyond", x.feed(0, 0, 0, 0, 0), -1);
        Due.is("refused feed", x.status(0), 1);
        Due.is("end(1580)", x.end(1580), true);
        Due.is("feed again", x.feed(0, 0, 0, 0, 0), 1600);
        Due.is("end(1581)", x.end(1581), true);
        Due.is("19 bytes too few", x.feed(0, 0, 0, 0, 0), -1);

        Tried t = Tried.with("box 60;least 30;");
        t.x.feed(0x01020304, 0xfffefdfc, 0x80000000, 0x7f, 5);
        t.x.save();
        int[] want = {1, 2, 3, 4, 255, 254, 253, 252, 128, 0, 0, 0, 0, 0, 0, 127, 0, 0, 0, 5};
        for (int k = 0; k < 20; k++) {
            Due.is("the highest first, " + k, t.x.octet(0, k), want[k]);
        }
    }

    private static void ending() {
        PieceStore x = new PieceStore();
        Due.is("end(0) of nothing", x.end(0), true);
        Due.is("end(1) of nothing", x.end(1), false);
        x.feed(1, 2, 3, 4, 5);
        Due.is("end(20)", x.end(20), true);
        Due.is("end(21)", x.end(21), false);
        Due.is("end(-1)", x.end(-1), false);
        Due.is("end(least int)", x.end(Integer.MIN_VALUE), false);
        Due.is("end(7)", x.end(7), true);
        Due.is("end(8)", x.end(8), false);
        Due.is("refused ends", x.status(0), 5);
        Due.is("feed behind 7", x.feed(1, 2, 3, 4, 5), 27);
    }

    private static void storing() {
        Tried t = new Tried();
        Due.is("a store", t.store("box 60;window 3;hook all;"), 3);
        Due.is("its tape goes", t.x.end(1), false);
        Due.is("fault(0)", t.x.fault(0), 0);
        Due.is("fault(1)", t.x.fault(1), -1);
        Due.is("fault(2)", t.x.fault(2), -1);
        Due.is("fault(-1)", t.x.fault(-1), -1);
        t.x.seed(77);
        t.save("abcabcabc");
        t.meet(0, 1);
        t.x.days(3);
        Due.is("a fault", t.store("box 60;window 3;window;"), -1);
        Due.is("its tape goes, too", t.x.end(1), false);
        Due.is("its fault", t.x.fault(0), 1);
        Due.is("its place", t.x.fault(1), 22);
        Due.is("refused store", t.x.status(1), 1);
        Due.is("all stays: box", t.x.has(0), 60);
        Due.is("all stays: backups", t.x.has(1), 1);
        Due.is("all stays: day", t.x.has(7), 3);
        Due.is("all stays: acts", t.x.has(10), 2);
        Due.is("a new one", t.store("box 61;"), 1);
        int[] want = {61, 0, 0, 0, 0, 0, 0, 0, 0, 0, 0, 77};
        for (int what = 0; what < want.length; what++) {
            Due.is("as at first, has(" + what + ")", t.x.has(what), want[what]);
        }
        Due.is("nothing kept", t.x.kept(0, 0), -1);
        Due.is("no act can be undone", t.x.undo(), false);
        Due.is("without a fault", t.x.fault(0), 0);
        Due.is("refused stay counted", t.x.status(1), 1);
        Due.is("the number 0 again", t.save("abc"), 0);
        Due.is("blanks and lines", new Tried().store("\n box\n60 ;\n\n"), 1);
        Due.is("40 statements", new Tried().store("box 60;" + "rot 5;".repeat(39)), 40);
        Due.is("zeros ahead", new Tried().store("box 0060;window 0016;"), 2);
    }

    private static void fault(String text, int kind, int place) {
        Tried t = new Tried();
        Due.is("store " + text, t.store(text), -1);
        Due.is("fault(0) of " + text, t.x.fault(0), kind);
        Due.is("fault(1) of " + text, t.x.fault(1), place);
    }

    private static void faultsOfText() {
        fault("", 1, 0);
        fault("  \n ", 1, 4);
        fault("box", 1, 3);
        fault("box  ", 1, 5);
        fault("box 60", 1, 6);
        fault("box ;", 1, 4);
        fault("box60;", 1, 3);
        fault("box 60 60;", 1, 7);
        fault("box 60window 3;", 1, 6);
        fault("bo 60;", 1, 0);
        fault(";", 1, 0);
        fault("60;", 1, 0);
        fault(" hook all;", 1, 1);
        fault("box 60;;", 1, 7);
        fault("box 60;\tall", 1, 7);
        fault("box 60;Box 60;", 1, 7);
        fault("box 60;all;", 1, 7);
        fault("box 60;sum 3;", 1, 7);
        fault("box 60;windowx 3;", 1, 13);
        fault("box 60;abcdefghij", 1, 13);
        fault("box 12345;", 1, 8);
        fault("box 60;12345", 1, 11);
        fault("box 60;window 00001;", 1, 18);
        fault("box 60;hook all all;", 1, 16);
        fault("box 60;hook 1;", 1, 13);
        fault("box 60;hook 1<;", 1, 14);
        fault("box 60;hook 1<2<3;", 1, 15);
        fault("box 60;hook all<2;", 1, 15);
        fault("box 60;hook (all);", 1, 13);
        fault("box 60;hook [1];", 1, 14);
        fault("box 60;hook [all;", 1, 16);
        fault("box 60;hook (1<2);", 1, 14);
        fault("box 60;hook (1;", 1, 14);
        fault("box 60;hook -1<2;", 1, 12);
        fault("box 60;hook 1=-1;", 1, 14);
        fault("box 60;hook min 1", 1, 16);
        fault("box 60;hook min(1)", 1, 17);
        fault("box 60;hook min(1,2,3)", 1, 19);
        fault("box 60;hook if(1,2,3)", 1, 16);
        fault("box 60;hook if(all,2)=2;", 1, 20);
        fault("box 60;hook not;", 1, 15);
        fault("box 60;hook all and;", 1, 19);
        fault("box 60;hook and all;", 1, 12);
        fault("box 60;hook 1<2and all;", 1, 15);
        fault("box 60;hook 1<not all;", 1, 14);
        fault("box 60;hook 1<[all];", 1, 14);
        fault("box 60;hook if(all,1,2)3;", 1, 23);
        fault("box 60;hook sum=1;", 1, 12);
        fault("box 60;hook byte=1;", 1, 12);
        fault("box 60;hook normal=1;", 1, 12);
        fault("box 60;hook live=1;", 1, 12);
        fault("box 60;border print=1;", 1, 14);
        fault("box 60;border place=1;", 1, 14);
        fault("box 60;border age=1;", 1, 14);
        fault("box 60;clean length=1;", 1, 13);
        fault("box 60;clean place=1;", 1, 13);
        fault("box 60;clean byte=1;", 1, 13);
        fault("box 60;clean dead=" + (char) 233, 1, 18);
        fault("box 60;clean foo=1;", 1, 13);
    }

    /** Words and numbers side by side: the place of the missing blank is ahead of a 7th letter or a 5th digit. */
    private static void faultsOfMissingBlanks() {
        fault("box 60aaaaaaaa", 1, 6);
        fault("box 60aaaaaaaa" + "\u0000".repeat(12), 1, 6);
        fault("box 60aaaaaa", 1, 6);
        fault("box 60windowx 3;", 1, 6);
        fault("box6000;", 1, 3);
        fault("box60000;", 1, 3);
        fault("box 60;window12345;", 1, 13);
        fault("box 60;hook all12345;", 1, 15);
        fault("box 60;hook 1<2lengthy=1;", 1, 15);
        fault("box 60;hook 1lengthy=1;", 1, 13);
        fault("box 60;hook min12345", 1, 15);
        fault("box 60;hook not12345<1;", 1, 15);
        fault("box 60 aaaaaaaa", 1, 13);
        fault("box 60\naaaaaaaa", 1, 13);
        fault("box 60;hook all 12345;", 1, 20);
        fault("box 60;windowx12345;", 1, 13);
        fault("box 12345aaaaaaaa;", 1, 8);
        fault("bo60000;", 1, 0);
        fault("box 59aaaaaaaa", 4, 4);
        fault("box 60;hook all;hook12345", 6, 16);
        String forty = "box 60;" + "rot 5;".repeat(39);
        fault(forty + "aaaaaaaa", 6, forty.length());
        fault(forty + "rot12345", 6, forty.length());
    }

    private static void faultsOfNumbers() {
        String[] names = {"window", "least", "normal", "most", "segs", "champs", "desk", "keep", "rot"};
        int[][] bounds = {{1, 16}, {1, 30}, {1, 60}, {30, 60}, {1, 8}, {0, 4}, {1, 6}, {0, 99}, {0, 100}};
        fault("box 59;", 4, 4);
        fault("box 201", 4, 4);
        Due.is("box 60", new Tried().store("box 60;"), 1);
        Due.is("box 200", new Tried().store("box 200;"), 1);
        for (int i = 0; i < names.length; i++) {
            String ahead = "box 60; " + names[i] + " ";
            Due.is(names[i] + " least", new Tried().store(ahead + bounds[i][0] + ";"), 2);
            Due.is(names[i] + " most", new Tried().store(ahead + bounds[i][1] + ";"), 2);
            fault(ahead + (bounds[i][1] + 1) + ";", 4, ahead.length());
            fault(ahead + "9999 nonsense", 4, ahead.length());
            boolean zero = java.util.Arrays.asList(ZERO_BOUND).contains(names[i]);
            if (!zero) {
                fault(ahead + (bounds[i][0] - 1), 4, ahead.length());
            }
        }
        Due.is("any number in a test", new Tried().store("box 60;hook 0000<9999;"), 2);
    }

    private static void faultsOfDepth() {
        fault("box 60;hook ((((((((1", 5, 19);
        fault("box 60;hook [[[[[[[[1", 5, 19);
        fault("box 60;hook " + "not ".repeat(8) + "all;", 5, 40);
        fault("box 60;hook not [not [not [not (", 5, 31);
        Due.is("seven brackets", new Tried().store("box 60;hook (((((((1)))))))=1;"), 2);
        Due.is("seven nots", new Tried().store("box 60;hook " + "not ".repeat(7) + "all;"), 2);
        Due.is("nots that end", new Tried().store("box 60;hook not not not not all and not not not not all;"), 2);
        Due.is("brackets that end", new Tried().store("box 60;hook [[[[all]]]] and [[[[all]]]] or (((1)))+(((((1)))))=2;"), 2);
        Due.is("calls open, too", new Tried().store("box 60;hook min(max(min(max(min(max(min(1,2),2),2),2),2),2),2)=1;"), 2);
        fault("box 60;hook min(max(min(max(min(max(min(max(1", 5, 43);
        fault("box 60;hook if(if(if(if(if(if(if(if(", 5, 35);
        fault("box 60;hook not not not not not not not 1+(2)=3;", 5, 42);
        fault("box 60;hook not not not not not not not [all];", 5, 40);
        Due.is("a not ends with its fact", new Tried().store("box 60;hook not not not not not not not all or (1)=1;"), 2);
        fault("box 60;hook (((((((1(", 1, 20);
    }

    private static void faultsOfKinds() {
        fault("box 60;hook all;border all;hook all;", 6, 27);
        fault("box 60;border all; border", 6, 19);
        fault("box 60;clean all;clean 12345", 6, 17);
        fault("box 60;box 60;", 1, 7);
        String forty = "box 60;" + "rot 5;".repeat(39);
        fault(forty + "rot 5;", 6, forty.length());
        fault(forty + " \nhook", 6, forty.length() + 2);
        fault(forty + "box 60;", 6, forty.length());
        Due.is("blanks behind 40", new Tried().store(forty + "  \n"), 40);
        fault("box 60;rot 101;" + "rot 5;".repeat(50), 4, 11);
    }

    private static void lastNumberCounts() {
        Tried t = Tried.with("box 60;least 5;most 40;border all;least 2;");
        Due.is("the last least counts", t.cuts("abcdef", 0), 2);
        t = Tried.with("box 60;most 30;border not all;most 33;");
        Due.is("the last most counts", t.cuts("a".repeat(100), 0), 33);
    }

    /** Whether a test of border holds behind the first of two bytes. */
    private static boolean holds(String test, int octet) {
        Tried t = Tried.with("box 60;least 1;border " + test + ";");
        return t.cuts(String.valueOf((char) octet) + "x", PieceStore.NONE) == 2;
    }

    private static void holds(String test) {
        Due.is(test, holds(test, 'a'), true);
    }

    private static void fails(String test) {
        Due.is(test, holds(test, 'a'), false);
    }

    private static void sums() {
        holds("2+3*4=14");
        holds("(2+3)*4=20");
        holds("10-3-2=5");
        holds("100/5/2=10");
        holds("100/(5/2)=50");
        holds("7%4*2=6");
        holds("2*7%4=2");
        holds("7/2=3");
        holds("(0-7)/2=0-4");
        holds("7/(0-2)=0-4");
        holds("(0-7)/(0-2)=3");
        holds("(0-7)%2=1");
        holds("7%(0-2)=0-1");
        holds("(0-7)%(0-2)=0-1");
        holds("(0-8)/2=0-4");
        holds("5/0=0");
        holds("5%0=0");
        holds("0/5=0");
        holds("9999*9999=1000*1000");
        holds("1000*1000+1=1000*1000");
        holds("1000*1000-1<1000*1000");
        holds("1000*1000+5-5=1000*1000-5");
        holds("0-9999*9999=0-1000*1000");
        holds("(0-9999)*9999=0-1000*1000");
        holds("0-1000*1000-1=0-1000*1000");
        holds("9999*100=9999*10*10");
        fails("9999*100=1000*1000");
        holds("9999*9999/1000=1000");
        holds("min(3,2)=2");
        holds("min(0-3,2)=0-3");
        holds("max(3,2)=3");
        holds("max(0-3,0-2)=0-2");
        holds("if(1<2,3,4)=3");
        holds("if(1>2,3,4)=4");
        holds("if(1<2 and 2<1 or all,if(not all,5,6),4)+1=7");
        holds("1+if(all,2*3,0)*2=13");
    }

    private static void tests() {
        holds("1<2");
        fails("2<2");
        holds("3>2");
        fails("2>2");
        holds("2=2");
        fails("2=3");
        holds("all");
        fails("not all");
        holds("not not all");
        holds("not 1=2");
        fails("not 1=1");
        holds("all or all and not all");
        holds("not all and not all or all");
        fails("not all and [not all or all]");
        holds("not [all and not all]");
        holds("not all or all");
        fails("not [all or all]");
        fails("all and not all");
        fails("not all or not all");
        holds("not all or not all or all");
        fails("all and all and not all");
    }

    private static void factsOfBorder() {
        holds("byte=97");
        holds("sum=97");
        holds("length=1");
        holds("normal=8");
        holds("day=0");
        Due.is("a high byte", holds("byte=255 and sum=255", 255), true);
        Tried t = Tried.with("box 60;least 1;normal 12;window 2;border normal=12 and sum=(97*31+98)%1009;");
        Due.is("a window of 2", t.cuts("abab", 0), 2);
        Due.is("and it slides over borders", t.cuts("abab", PieceStore.NONE), 2);
        t = Tried.with("box 60;least 1;window 3;border sum=(97*31%1009*31+98*31+99)%1009;");
        Due.is("a window of 3", t.cuts("xabcx", 0), 4);
        t = Tried.with("box 60;least 1;window 16;border length=2;");
        Due.is("length is of the piece", t.cuts("abcdefg", 3), 1);
        t = Tried.with("box 60;least 1;border day=2;");
        Due.is("day 0", t.cuts("abc", PieceStore.NONE), 1);
        t.x.days(2);
        Due.is("day 2", t.cuts("abc", PieceStore.NONE), 3);
    }
}
