/** Promises 12 to 17: the tape, texts and their faults, yes, readings, what counts, the numbers. */
public final class TextsTest {

    public static void main(String[] args) {
        feed();
        texts();
        faults();
        firstFault();
        yes();
        readings();
        striking();
        binding();
        bindsAll();
        ownDelay();
        numbers();
        Check.end("TextsTest");
    }

    private static void feed() {
        IceTreaty x = new IceTreaty();
        for (int n = 20; n <= 400; n += 20) {
            Check.due("12 feed", x.feed(1, 2, 3, 4, 5), n);
        }
        Check.due("12 more than 400", x.feed(1, 2, 3, 4, 5), -1);
        Check.due("12 bytes", x.count(16), 400);
        IceTreaty y = Check.land(1);
        y.feed('n' << 24 | '(' << 16 | 'a' << 8 | '<', '1' << 24 | ')' << 16 | '7' << 8 | '8', '9' << 24, 0, -1);
        Check.due("12 the highest first", y.text(0, 9, 9), 0);
    }

    private static void texts() {
        IceTreaty x = Check.land(1);
        Check.feed(x, "z;z;z;z;z;z;z;z;z;z;");
        int[][] wrong = {{-1, 9, 1}, {9, 8, 1}, {0, 3600, 1}, {0, 9, 0}, {0, 9, -1}, {0, 9, 201}, {0, 9, 21}};
        for (int[] w : wrong) {
            Check.due("13 text" + java.util.Arrays.toString(w), x.text(w[0], w[1], w[2]), -1);
            Check.due("13 the tape stays", x.count(16), 20);
        }
        Check.due("13 by the first bytes alone", x.text(7, 7, 3), 0);
        Check.due("13 empty then", x.count(16), 0);
        Check.due("13 two clauses", x.counts(0, 0, 7), 2);
        Check.due("13 ahead of its first day", x.counts(0, 0, 6), 0);
        Check.due("13 behind its last day", x.counts(0, 0, 8), 0);
        Check.due("13 the first day alone", Check.text(x, 0, 0, "z"), 1);
        Check.due("13 the last day alone", Check.text(x, 3599, 3599, "z"), 2);
        x.yes(0, 2);
        Check.due("13 the last day alone", x.counts(2, 0, 3598) + 10 * x.counts(2, 0, 3599), 10);
        for (int i = 3; i < 20; i++) {
            Check.due("13 text", Check.text(x, 0, 3599, "z"), i);
        }
        Check.due("13 20 are there", Check.text(x, 0, 3599, "z"), -1);
        Check.due("13 the tape stays", x.count(16), 20);
        Check.due("13 texts", x.count(5), 20);
        IceTreaty y = Check.land(1);
        StringBuilder long200 = new StringBuilder("f(a=1");
        while (long200.length() < 195) {
            long200.append("|a=11");
        }
        Check.due("13 200 bytes", Check.text(y, long200 + "&a=1)"), 0);
        Check.feed(y, long200 + "&a=1)z");
        Check.due("13 201 bytes", y.text(0, 9, 201), -1);
    }

    private static void faults() {
        fault("f(a=1)", 0);
        fault("l(a=1)", 0);
        fault("c(a=1)", 0);
        fault("n(a=1)0", 0);
        fault("s(a=1)999999", 0);
        fault("z;a0;q1;g2;k3.3=000000;x19.11", 0);
        fault("f(![[1+2]*3-p/b%h<i+r*s]=n-o)", -1017);
        fault("f(![1+2]*3-p/b%h<i+r*[s]&(n-o=t|e>d&y<m))", 0);
        fault("f(!!!!!!!a=1&!!!!!!!a=1)", 0);
        fault("f(!!!!!!!!a=1)", -5009);
        fault("f(((((((((a=1))))))))", -5009);
        fault("f([[[[[[[1]]]]]]]=1)", 0);
        fault("f([[[[[[[[1]]]]]]]]=1)", -5009);
        fault("f((((!!![1]=1)))&[1]=1);f((((!!![1]=1))))", 0);
        fault("f((((!!![[1]]=1))))", -5009);
        fault("f(1=1&!(!(!([1]=[[[1]]]))))", -5017);
        fault("f(1=1&!(!(!([1]=[1]))))", 0);
        fault("", -1);
        fault("b", -1000);
        fault("F(a=1)", -1000);
        fault(" z", -1000);
        fault("z ", -1001);
        fault("zz", -1001);
        fault(";z", -1000);
        fault("z;;z", -1002);
        fault("z;", -1002);
        fault("f", -1001);
        fault("f()", -1002);
        fault("f(a)", -1003);
        fault("f((a)=1)", -1004);
        fault("f(a=1", -1005);
        fault("f(a=1;z", -1005);
        fault("f(a==1)", -1004);
        fault("f(a<1<2)", -1005);
        fault("f(a=1|)", -1006);
        fault("f(a=1&|a=1)", -1006);
        fault("f(a=(1))", -1004);
        fault("f(a=[1)", -1006);
        fault("f(a=[1=2])", -1006);
        fault("f([]=1)", -1003);
        fault("f(!)", -1003);
        fault("f(a=!1)", -1004);
        fault("f(a=1!)", -1005);
        fault("f(-1=a)", -1002);
        fault("f(a=1)5", -1006);
        fault("f(a+*1=1)", -1004);
        fault("f(aa=1)", -1003);
        fault("f(1a=1)", -1003);
        fault("f(a1=1)", -1003);
        fault("f(c=1)", -1002);
        fault("f(\u00e4=1)", -1002);
        fault("\u00e6", -1000);
        fault("n(a=1)", -1006);
        fault("n(a=1)z", -1006);
        fault("n(a=1)1z", -1007);
        fault("a", -1001);
        fault("a-1", -1001);
        fault("q1.0", -1002);
        fault("k1", -1002);
        fault("k1,", -1002);
        fault("k1.", -1003);
        fault("k1.1", -1004);
        fault("k1.1=", -1005);
        fault("k1.1=z", -1005);
        fault("x1", -1002);
        fault("x1.", -1003);
        fault("x1.1=1", -1004);
        fault("a1234567", -2007);
        fault("f(0000000=1)", -2008);
        fault("f(a=1234567)", -2010);
        fault("n(a=1)1234567", -2012);
        fault("k0000000", -2007);
        fault("k9999999", -2007);
        fault("k4", -3001);
        fault("k999999z", -3001);
        fault("k3.4", -3003);
        fault("k3.4z", -3003);
        fault("k000003.000003=999999", 0);
        fault("x20", -3001);
        fault("x19.12", -3004);
        fault("x0.12;z", -3003);
        fault("z;z;z;z;z;z;z;z;z;z;z;z", 0);
        fault("z;z;z;z;z;z;z;z;z;z;z;z;", -1024);
        fault("z;z;z;z;z;z;z;z;z;z;z;z;b", -1024);
        fault("z;z;z;z;z;z;z;z;z;z;z;z;f", -4024);
        fault("z;z;z;z;z;z;z;z;z;z;z;z;x99", -4024);
        for (String letter : new String[] {"f", "l", "n", "s", "c", "z", "a", "q", "k", "g", "x"}) {
            fault("z;z;z;z;z;z;z;z;z;z;z;z;" + letter, -4024);
        }
    }

    private static void firstFault() {
        fault("y;y", -1000);
        fault("z;x20.0;f(", -3003);
        fault("f(0000000=1;k9", -2008);
        fault("k4.4=1", -3001);
        fault("f(a);x20.0", -1003);
        fault("f(((((((((", -5009);
        fault("x99999999", -2007);
        fault("z;z;z;z;z;z;z;z;z;z;z;z;x20.0", -4024);
        fault("k0.0=999999;g999999;a999999;q999999;n(999999=1)999999;s(a=1)999999", 0);
    }

    private static void fault(String signs, int want) {
        IceTreaty x = Check.land(1);
        Check.due("13 text of " + signs, Check.text(x, signs), want);
        if (signs.length() > 0) {
            Check.due("13 the tape is empty behind " + signs, x.count(16), 0);
        }
        Check.due("13 texts behind " + signs, x.count(5), want == 0 ? 1 : 0);
    }

    private static void yes() {
        IceTreaty x = Check.land(2);
        Check.text(x, "z");
        Check.text(x, 5, 9, "z");
        Check.due("14 not to text 0", x.yes(0, 0), false);
        Check.due("14 no party", x.yes(2, 1), false);
        Check.due("14 no party", x.yes(-1, 1), false);
        Check.due("14 no text", x.yes(0, 2), false);
        Check.due("14 no text", x.yes(0, -1), false);
        Check.due("14 yes ahead of its force", x.yes(0, 1), true);
        Check.due("14 it has", x.yes(0, 1), false);
        Check.due("14 another one", x.yes(1, 1), true);
        x.day();
        Check.due("14 it has on another day", x.yes(0, 1), false);
    }

    private static void readings() {
        IceTreaty x = Check.land(2);
        Check.text(x, "f(a=1);l(a=1);n(a=1)1;s(a=1)1;c(a=1);z;a1;q1;g1;k1.1=1;x1.1");
        for (int j = 0; j < 12; j++) {
            Check.due("15 reading of clause " + j, Check.reading(x, 0, 0, j, "(a=2)"), j < 5 ? 0 : -1);
            if (j >= 5) {
                Check.due("15 the tape stays", x.count(16), 20);
                x.check(0);
            }
        }
        Check.due("15 readings", x.count(6), 5);
        Check.feed(x, "(a=2)");
        int[][] wrong = {{2, 0, 0, 5}, {-1, 0, 0, 5}, {0, 1, 0, 5}, {0, -1, 0, 5}, {0, 0, -1, 5}, {0, 0, 0, 0}, {0, 0, 0, -5},
            {0, 0, 0, 101}, {0, 0, 0, 21}};
        for (int[] w : wrong) {
            Check.due("15 reading" + java.util.Arrays.toString(w), x.reading(w[0], w[1], w[2], w[3]), -1);
            Check.due("15 the tape stays", x.count(16), 20);
        }
        Check.due("15 reading", x.reading(1, 0, 0, 5), 0);
        Check.due("15 empty then", x.count(16), 0);
        String[] faulty = {"a=2", "(a=2", "(a=2);", "(a=2)1", "()", "(0000000=1)", "(((((((((a=1)))))))))", "(a=[[[[[[[[1]]]]]]]]"};
        int[] due = {-1000, -1004, -1005, -1005, -1001, -2007, -5008, -5010};
        for (int i = 0; i < faulty.length; i++) {
            Check.due("15 reading " + faulty[i], Check.reading(x, 0, 0, 0, faulty[i]), due[i]);
            Check.due("15 empty then", x.count(16), 0);
        }
        Check.due("15 readings", x.count(6), 6);
        Check.due("15 a byte is enough for a fault", Check.reading(x, 0, 0, 0, "("), -1001);
        Check.due("15 empty then", x.count(16), 0);
        Check.due("15 a ninth in its own clause alone", Check.reading(x, 0, 0, 4, "(!!!!!!!a=1&!!!!!!!a=1)"), 0);
        Check.due("15 a ninth", Check.reading(x, 0, 0, 4, "(!!!!!!!!a=1)"), -5008);
        Check.due("15 readings", x.count(6), 7);
        String ones = "1+1+1+1+1+1+1+1+1+1+1+1+1+1+1+1+1+1+1+1+1+1+1+1+1+1+1+1+1+1+1+1+1+1+1+1+1+1+1+1+1+1+1+1+1+1+1+1";
        Check.due("15 100 bytes", Check.reading(x, 0, 0, 0, "(" + ones + "=48)"), 0);
        Check.feed(x, "(" + ones + "=048)");
        Check.due("15 101 bytes", x.reading(0, 0, 0, 101), -1);
        x.check(0);
        for (int r = 8; r < 20; r++) {
            Check.due("15 reading", Check.reading(x, 1, 0, 4, "(a=2)"), 0);
        }
        Check.due("15 20 are there", Check.reading(x, 1, 0, 4, "(a=2)"), -1);
        Check.due("15 the tape stays", x.count(16), 20);
        Check.due("15 readings", x.count(6), 20);
    }

    private static void striking() {
        IceTreaty x = Check.land(1);
        Check.text(x, "z;a1;a2;x0.0;x1.0;x2.0");
        Check.text(x, "x0.1;x1.2;q7;x2.0");
        Check.text(x, "x1.0;x0.2;x19.0;z");
        Check.due("16 nothing strikes its own or a later text", x.counts(0, 0, 0), 6);
        Check.due("16 does not bind", x.counts(1, 0, 0), 0);
        x.yes(0, 1);
        Check.due("16 one is struck", x.counts(0, 0, 0), 5);
        Check.due("16 all of text 1", x.counts(1, 0, 0), 4);
        Check.due("17 the last that counts", x.number(0, 0, 0), 2);
        x.yes(0, 2);
        Check.due("16 what is struck strikes nothing: another one is", x.counts(0, 0, 0), 5);
        Check.due("16 the strike of text 1 is struck", x.counts(1, 0, 0), 3);
        Check.due("16 text 2", x.counts(2, 0, 0), 4);
        Check.due("17 the first a is back", x.number(0, 0, 0), 1);
        Check.due("16 no text", x.counts(3, 0, 0), -1);
        Check.due("16 no text", x.counts(-1, 0, 0), -1);
        Check.due("16 no party", x.counts(0, 1, 0), -1);
        Check.due("16 no day", x.counts(0, 0, -1), -1);
        Check.due("16 no day", x.counts(0, 0, 3600), -1);
        Check.due("16 the last day", x.counts(0, 0, 3599), 5);
    }

    private static void binding() {
        IceTreaty x = Check.land(2);
        Check.text(x, 0, 9, "g3");
        Check.text(x, 0, 3599, "a5;g1");
        Check.text(x, 0, 3599, "a6;x1.1");
        x.day();
        x.yes(0, 1);
        x.yes(0, 2);
        Check.due("16 behind its yes by 3 days", x.counts(1, 0, 3), 0);
        Check.due("16 behind its yes by 3 days, less what text 2 strikes", x.counts(1, 0, 4), 1);
        Check.due("16 by the g of text 0 at first", x.counts(2, 0, 3), 0);
        Check.due("16 by that of text 1 then", x.counts(2, 0, 4), 2);
        Check.due("16 a day ahead of the yes", x.counts(2, 0, 0), 0);
        Check.due("17 g of text 1 is struck for all that is asked", x.number(2, 0, 4), 3);
        Check.due("16 no g by day 10: struck alone by text 2", x.counts(2, 0, 10), 2);
        Check.due("17 none", x.number(2, 0, 10), 0);
        Check.due("17 another party", x.number(0, 1, 10), 0);
        IceTreaty y = Check.land(1);
        Check.text(y, 2, 3599, "g3");
        Check.text(y, 0, 3599, "z");
        y.yes(0, 1);
        Check.due("16 no g yet", y.counts(1, 0, 1), 1);
        Check.due("16 a g that is in force keeps it", y.counts(1, 0, 2), 0);
        Check.due("16 till its days are over", y.counts(1, 0, 3), 1);
    }

    private static void bindsAll() {
        IceTreaty x = new IceTreaty();
        Check.text(x, 3, 5, "a7;g9");
        x.party(false);
        x.day();
        x.party(true);
        for (int p = 0; p < 2; p++) {
            Check.due("16 text 0 ahead of its days, party " + p, x.counts(0, p, 2), 0);
            Check.due("16 text 0 binds all, party " + p, x.counts(0, p, 3), 2);
            Check.due("16 text 0 binds all, party " + p, x.number(0, p, 5), 7);
            Check.due("16 text 0 behind its days, party " + p, x.number(0, p, 6), 0);
        }
        Check.text(x, 4, 9, "z");
        x.yes(0, 1);
        Check.due("16 yes ahead of its days: bound by g 9 of text 0", x.counts(1, 0, 5), 0);
        Check.due("16 from then on without a g", x.counts(1, 0, 6), 1);
        Check.due("16 no yes of the other one", x.counts(1, 1, 6), 0);
        Check.due("16 its last day", x.counts(1, 0, 9), 1);
        Check.due("16 behind its days", x.counts(1, 0, 10), 0);
    }

    /** Only what stands below a text keeps it waiting. */
    private static void ownDelay() {
        IceTreaty x = Check.land(1);
        Check.text(x, "z");
        Check.text(x, "g5;a1");
        Check.text(x, "g7;x1.0");
        x.yes(0, 1);
        Check.due("16 its own g does not keep it", x.counts(1, 0, 0), 2);
        x.yes(0, 2);
        Check.due("16 a g of a higher text does not keep it", x.counts(1, 0, 0), 2);
        Check.due("16 that of the lower one does", x.counts(2, 0, 4), 0);
        Check.due("16 for so many days", x.counts(2, 0, 5), 2);
        Check.due("16 and is struck then", x.counts(1, 0, 5), 1);
        Check.due("17 g", x.number(2, 0, 4), 5);
        Check.due("17 g of the higher one", x.number(2, 0, 5), 7);
        Check.due("16 not on days ahead of the yes", later(), 0);
    }

    private static int later() {
        IceTreaty x = Check.land(1);
        Check.text(x, "z");
        Check.text(x, "z");
        Check.days(x, 3);
        x.yes(0, 1);
        return x.counts(1, 0, 2) + 10 * (x.counts(1, 0, 3) - 1);
    }

    private static void numbers() {
        IceTreaty x = Check.land(1);
        Check.due("17 a without one", x.number(0, 0, 0), 0);
        Check.due("17 q without one", x.number(1, 0, 0), -1);
        Check.due("17 g without one", x.number(2, 0, 0), 0);
        Check.due("17 z without one", x.number(3, 0, 0), 0);
        Check.due("17 k without one", x.number(10, 0, 0), -1);
        Check.text(x, "a3;a4;q0;q9;g1;g0;k0.0=7;k0.0=0;k3.3=5;k1.2=11;k2.1=12;z");
        Check.text(x, "a8;k0.0=99;q3;g5;k1.0=14;k0.3=13;k2.3=21");
        int[][] due = {{0, 4}, {1, 9}, {2, 0}, {3, 1}, {10, 0}, {25, 5}, {16, 11}, {19, 12}, {11, -1}, {24, -1}, {4, -1}, {9, -1},
            {26, -1}, {-1, -1}, {Integer.MIN_VALUE, -1}};
        for (int[] d : due) {
            Check.due("17 number(" + d[0] + ", 0, 0)", x.number(d[0], 0, 0), d[1]);
        }
        x.yes(0, 1);
        Check.due("17 of the highest text", x.number(0, 0, 0), 8);
        Check.due("17 of the highest text", x.number(10, 0, 0), 99);
        Check.due("17 of the highest text", x.number(1, 0, 0), 3);
        Check.due("17 of the highest text", x.number(2, 0, 0), 5);
        Check.due("17 of the lower one if the higher has none", x.number(25, 0, 0), 5);
        int[][] ofSeas = {{14, 14}, {13, 13}, {21, 21}, {12, -1}, {15, -1}, {17, -1}, {20, -1}};
        for (int[] d : ofSeas) {
            Check.due("17 number(" + d[0] + ", 0, 0)", x.number(d[0], 0, 0), d[1]);
        }
        Check.due("17 no party", x.number(0, 1, 0), -1);
        Check.due("17 no day", x.number(0, 0, 3600), -1);
        Check.due("17 no day", x.number(3, 0, -1), -1);
    }
}
