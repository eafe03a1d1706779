/** Terms I: what a SUM and a TEST are and what they come to, of what is told by each word, in which TEST it stands. */
final class EdgesOfTests {
    private static final String[] WORDS = {"day", "sum", "length", "byte", "normal", "print", "place", "live", "dead", "age"};

    private EdgesOfTests() {
    }

    static void all() {
        sums();
        tests();
        wordsOfTests();
        whatWordsTell();
    }

    /** Whether a test of border holds behind the one byte 'a'. */
    private static void is(String test, boolean want) {
        Tried t = Tried.with("box 60;least 1;border " + test + ";");
        Due.is(test, t.cuts("ax", PieceStore.NONE) == 2, want);
    }

    private static void holds(String test) {
        is(test, true);
    }

    private static void fails(String test) {
        is(test, false);
    }

    private static void sums() {
        Edge.of(4, "SUM: PRODUCT { + or - PRODUCT }. PRODUCT: PART { * or / or % PART }.", () -> {
            holds("2+3*4=14");
            holds("2*3+4=10");
            holds("20-6/2=17");
            holds("20-7%4=17");
            holds("(2+3)*4=20");
            holds("2*(3+4)=14");
        });
        Edge.of(4, "All from the left on", () -> {
            holds("10-3-2=5");
            holds("10-3+2=9");
            holds("100/5/2=10");
            holds("100/5*2=40");
            holds("7%4*2=6");
            holds("2*7%4=2");
            holds("100%7%2=0");
            holds("1000*1000+5-5=1000*1000-5");
        });
        Edge.of(4, "/ gives the greatest whole number not above, % what is left (a less b times that)", () -> {
            int[] numbers = {0, 1, 2, 3, 5, 6, 7, 9999, -1, -2, -3, -5, -6, -7, -9999};
            for (int a : numbers) {
                for (int b : numbers) {
                    int whole = b == 0 ? 0 : (int) Math.floor((double) a / b);
                    holds(told(a) + "/" + told(b) + "=" + told(whole));
                    holds(told(a) + "%" + told(b) + "=" + told(b == 0 ? 0 : a - b * whole));
                }
            }
        });
        Edge.of(4, "by 0 both give 0", () -> {
            holds("5/0=0");
            holds("5%0=0");
            holds("0/0=0");
            holds("0%0=0");
            holds("(0-5)/0=0");
            holds("(0-5)%0=0");
            holds("7/(3-3)+7%(3-3)=0");
            fails("7/0<0 or 7/0>0 or 7%0<0 or 7%0>0");
        });
        Edge.of(4, "each result above 10 to the 6 is that, below -10 to the 6 likewise.", () -> {
            holds("999*1001+1=1000*1000");
            holds("1000*1000-1=999*1001");
            holds("1000*1000+1=1000*1000");
            holds("1000*1000+1-1=999*1001");
            holds("1000*1001-1=999*1001");
            holds("1000*1000*1000*1000-1=999*1001");
            holds("9999*9999*9999*9999-1=999*1001");
            holds("1000*1000+1000*1000-1=999*1001");
            holds("0-999*1001-1=0-1000*1000");
            holds("0-1000*1000+1=0-999*1001");
            holds("0-1000*1000-1+1=0-999*1001");
            holds("(0-1000)*1001+1=0-999*1001");
            holds("(0-1000*1000)*(1000*1000)+1=0-999*1001");
            holds("(0-1000*1000)*(0-1000*1000)-1=999*1001");
            holds("0-1000*1000-1000*1000+1=0-999*1001");
            fails("1000*1000+1>1000*1000");
            fails("0-1000*1000-1<0-1000*1000");
            holds("1001*1000/1000=1000");
            holds("(0-1000*1000)/(0-1)=1000*1000");
        });
        Edge.of(4, "min ( SUM , SUM ) ; max ( SUM , SUM )", () -> {
            holds("min(2,3)=2 and min(3,2)=2 and min(2,2)=2 and min(0-3,2)=0-3");
            holds("max(2,3)=3 and max(3,2)=3 and max(2,2)=2 and max(0-3,0-2)=0-2");
            holds("min(1+2,2*2)+max(1,2)*2=7");
        });
        Edge.of(4, "(the first SUM where the TEST holds, else the second one)", () -> {
            holds("if(1<2,3,4)=3");
            holds("if(2<2,3,4)=4");
            holds("if(all,3,4)=3");
            holds("if(not all,3,4)=4");
            holds("if(1<2 and 2<1 or all,5,6)+1=6");
            holds("if(all,if(not all,1,2),3)=2");
            holds("2*if(1=1,2+1,9)*2=12");
        });
    }

    /** A number as the language has it: without a sign. */
    private static String told(int n) {
        return n < 0 ? "(0-" + -n + ")" : String.valueOf(n);
    }

    private static void tests() {
        Edge.of(4, "SUM SIGN SUM, SIGN < or > or =", () -> {
            holds("1<2");
            fails("2<2");
            fails("3<2");
            holds("2>1");
            fails("2>2");
            fails("2>3");
            holds("2=2");
            fails("2=1");
            fails("2=3");
            holds("0-1<0");
            fails("0<0-1");
        });
        Edge.of(4, "TEST: BOTH { or BOTH }. BOTH: FACT { and FACT }. FACT: not FACT; [ TEST ] ; all;", () -> {
            holds("all");
            fails("not all");
            holds("not not all");
            fails("not not not all");
            holds("all or all and not all");
            holds("not all and all or all");
            fails("[all or all] and not all");
            fails("not all and [all or all]");
            fails("not all and all");
            holds("not all or all");
            holds("not [not all or not all]");
            fails("not [not all or all]");
            fails("all and all and not all");
            holds("not all or not all or all");
            fails("not all or not all or not all");
            holds("all and not 1=2");
            for (String sign : new String[] {"<", ">", "="}) {
                String holding = sign.equals("<") ? "1<2" : sign.equals(">") ? "2>1" : "2=2";
                String failing = sign.equals("<") ? "2<1" : sign.equals(">") ? "1>2" : "1=2";
                holds("not " + failing);
                fails("not " + holding);
                fails("all and " + failing);
                fails(failing + " and all");
                holds("all and " + holding);
                holds("not all or " + holding);
                fails("not all or " + failing);
                fails(failing + " or " + failing);
                holds("not [" + failing + " or " + failing + "]");
                holds("if(" + failing + ",1,2)=2");
                holds("if(" + holding + ",1,2)=1");
            }
        });
    }

    private static boolean isOf(String kind, String word) {
        String own = kind.equals("border") ? "day sum length byte normal" : kind.equals("hook") ? "day print length place" : "day live dead age";
        return (" " + own + " ").contains(" " + word + " ");
    }

    private static void wordsOfTests() {
        Edge.of(4, "PART: N; day; in border: sum; length; byte; normal; in hook: print; length; place; in clean: live; dead; age; ( SUM ) ;", () -> {
            for (String kind : new String[] {"border", "hook", "clean"}) {
                for (String word : WORDS) {
                    Tried t = new Tried();
                    String ahead = "box 60;" + kind + " 1<";
                    boolean own = isOf(kind, word);
                    Due.is(word + " in " + kind, t.store(ahead + word + ";"), own ? 2 : PieceStore.NONE);
                    Due.is(word + " in " + kind + ": fault", t.x.fault(0), own ? 0 : 1);
                    Due.is(word + " in " + kind + ": place", t.x.fault(1), own ? PieceStore.NONE : ahead.length());
                }
            }
        });
        Edge.of(5, "if ( TEST , SUM , SUM )", () -> {
            String[] wrong = {"box", "rot", "all", "not", "and", "or", "window", "border", "clean", "[1]", ")", ",", ";", "<"};
            for (String part : wrong) {
                Tried t = new Tried();
                String ahead = "box 60;hook 1+";
                t.store(ahead + part + "=1;");
                Due.is(part + " is no PART: fault", t.x.fault(0), 1);
                Due.is(part + " is no PART: place", t.x.fault(1), ahead.length());
            }
            for (String call : new String[] {"min", "max", "if"}) {
                Tried t = new Tried();
                t.store("box 60;hook " + call + "=1;");
                Due.is(call + " needs its (: fault", t.x.fault(0), 1);
                Due.is(call + " needs its (: place", t.x.fault(1), 12 + call.length());
            }
        });
    }

    private static void whatWordsTell() {
        Edge.of(4, "(The DAY; behind a byte the ROLLING SUM, how many bytes the PIECE has with it, the byte, normal as told", () -> {
            holds("day=0 and sum=97 and length=1 and byte=97 and normal=8");
            Tried t = Tried.with("box 60;least 1;normal 60;window 2;border normal=60 and sum=(97*31+98)%1009 and length=2 and byte=98 and day=3;");
            Due.is("on day 0", t.cuts("abab", PieceStore.NONE), 1);
            t.x.days(3);
            Due.is("on day 3", t.cuts("abab", PieceStore.NONE), 2);
            Due.is("the lowest byte", Tried.with("box 60;least 1;border byte=0;").cuts("\u0000a", 0), 1);
            Due.is("the highest byte", Tried.with("box 60;least 1;border byte=255;").cuts("\u00ffa", 0), 1);
        });
        Edge.of(4, "of a PIECE its PRINT, how many bytes it has, its number in its FILE", () -> {
            Due.is("print of ab.", hooks("print=4429*10+1"), 1);
            Due.is("print above a short number", hooks("print/10=4429"), 1);
            Due.is("length 3", hooks("length=3"), 2);
            Due.is("length 4", hooks("length=4"), 0);
            Due.is("length 1", hooks("length=1"), 1);
            Due.is("the first is number 0", hooks("place=0"), 1);
            Due.is("the last is number 3", hooks("place=3"), 1);
            Due.is("none is number 4", hooks("place=4"), 0);
            Due.is("the number goes on over segments", hooks("place>1"), 2);
            Due.is("the day", hooks("day=0"), 3);
            Tried t = Tried.with("box 60;hook day=3;");
            t.save("abc");
            Due.is("on day 0, without a test of border", t.x.has(6), 0);
            t.x.days(3);
            t.save("abc");
            Due.is("on day 3", t.x.has(6), 1);
        });
        Edge.of(4, "of a BOX how many bytes of LIVE PIECES, of others are in it, for how many DAYS it has been there.", () -> {
            for (int live = 4; live <= 6; live++) {
                Due.is("live=" + live, boxOfFiveAndThree("live=" + live), live == 5 ? 1 : 0);
            }
            for (int dead = 2; dead <= 4; dead++) {
                Due.is("dead=" + dead, boxOfFiveAndThree("dead=" + dead), dead == 3 ? 1 : 0);
            }
            for (int age = 1; age <= 3; age++) {
                Due.is("age=" + age, boxOfFiveAndThree("age=" + age), age == 2 ? 1 : 0);
            }
            Due.is("day=6", boxOfFiveAndThree("day=6"), 1);
            Due.is("all", boxOfFiveAndThree("live=5 and dead=3 and age=2"), 1);
            Tried t = Tried.with("box 60;clean day=3;");
            t.save("abc");
            Due.is("on day 0, without other tests", t.x.box(0, 5), 0);
            t.x.days(3);
            Due.is("on day 3", t.x.box(0, 5), 1);
        });
    }

    /** How many unlike hooks the pieces ab. xy. . ab. have by a test; two are a segment. */
    private static int hooks(String test) {
        Tried t = Tried.with("box 60;least 1;segs 2;border byte=46;hook " + test + ";");
        t.save("ab.xy..ab.");
        return t.x.has(6);
    }

    /** What the test of clean says of a box with 5 bytes that live and 3 others, there from day 4 on, on day 6. */
    private static int boxOfFiveAndThree(String test) {
        Tried t = Tried.with("box 60;least 1;border byte=46;hook all;clean " + test + ";");
        t.x.days(4);
        t.save("ab.");
        t.save("a.xy.");
        t.x.forget(0);
        t.x.days(2);
        return t.x.box(0, 5);
    }
}
