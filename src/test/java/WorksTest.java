/** Promises 18 to 24 and 60: who decides, works, what is told and said of them, what bars them, about. */
public final class WorksTest {

    public static void main(String[] args) {
        decides();
        becomesDeciding();
        behindAllWorks();
        work();
        telling();
        consent();
        consentAsSaidNow();
        notice();
        order();
        letters();
        daysAndYears();
        nearness();
        reservesAlone();
        lostStations();
        arithmetic();
        asMuchAsMatters();
        struckIsNotAsked();
        refusedAgainAndAgain();
        readings();
        readingsOfAllLetters();
        done();
        about();
        Check.end("WorksTest");
    }

    private static void decides() {
        IceTreaty x = new IceTreaty();
        x.party(true);
        x.party(false);
        Check.days(x, 5);
        x.party(true);
        int[][] due = {{0, 0, 1}, {0, 3599, 1}, {1, 0, 0}, {1, 3599, 0}, {2, 4, 0}, {2, 5, 1}, {3, 0, -1}, {-1, 0, -1},
            {0, -1, -1}, {0, 3600, -1}};
        for (int[] d : due) {
            Check.due("18 decides(" + d[0] + ", " + d[1] + ")", x.decides(d[0], d[1]), d[2]);
        }
    }

    private static void becomesDeciding() {
        IceTreaty x = new IceTreaty();
        for (int p = 0; p < 4; p++) {
            x.party(p == 0);
        }
        Check.text(x, "q4");
        Check.text(x, "q0");
        Check.text(x, "x0.0");
        x.work(0, 1, 0, 1, 9, 0, 0);
        x.work(0, 1, 5, 2, 2, 0, 0);
        x.work(1, 2, 0, 1, 9, 0, 0);
        x.work(0, 0, 0, 1, 9, 0, 0);
        x.yes(3, 2);
        Check.days(x, 2);
        Check.due("18 science of two works on a day", x.sum(11), 3);
        Check.due("18 not yet", x.count(21), -1);
        x.yes(2, 1);
        x.day();
        Check.due("18 from this day on", x.count(21), 3);
        Check.due("18 not ahead of it", x.decides(1, 2), 0);
        Check.due("18 from this day on", x.decides(1, 3), 1);
        Check.due("18 another kind is no science", x.sum(12), 0);
        Check.due("18 q 0 is enough", x.count(22), 3);
        Check.due("18 without a q", x.count(23), -1);
        Check.due("18 one that decides stays", x.count(20), 0);
        x.day();
        Check.due("18 it stays", x.count(21), 3);
    }

    /** It decides behind the works of the day on which it has enough science, whatever their numbers. */
    private static void behindAllWorks() {
        IceTreaty x = new IceTreaty();
        x.party(false);
        Check.text(x, "q1;f(b=0&a=1)");
        x.work(1, 0, 0, 0, 9, 0, 0);
        x.work(0, 0, 0, 0, 9, 0, 0);
        x.work(1, 0, 0, 0, 9, 0, 0);
        x.day();
        Check.due("18 it decides from this day on", x.count(20), 1);
        Check.due("18 the work ahead was held", x.about(0, 6), 1);
        Check.due("18 the work behind was held, too", x.about(2, 6), 1);
        Check.due("23 asked now it may be done", x.may(2, 1, false), 0);
        x.day();
        Check.due("18 the next day it is done", x.about(0, 5) + x.about(2, 5), 2);
    }

    private static void work() {
        IceTreaty x = Check.land(1);
        Check.days(x, 2);
        int[][] wrong = {{-1, 0, 0, 2, 3, 0, 0}, {10, 0, 0, 2, 3, 0, 0}, {0, 1, 0, 2, 3, 0, 0}, {0, 0, 64, 2, 3, 0, 0},
            {0, 0, -1, 2, 3, 0, 0}, {0, 0, 0, 1, 3, 0, 0}, {0, 0, 0, 3, 2, 0, 0}, {0, 0, 0, 2, 3600, 0, 0},
            {0, 0, 0, 2, 3, -1, 0}, {0, 0, 0, 2, 3, 501, 0}, {0, 0, 0, 2, 3, 0, -1}, {0, 0, 0, 2, 3, 0, 100}};
        for (int[] w : wrong) {
            int answer = x.work(w[0], w[1], w[2], w[3], w[4], w[5], w[6]);
            Check.due("19 work" + java.util.Arrays.toString(w), answer, -1);
        }
        Check.due("19 from today", x.work(9, 0, 63, 2, 2, 500, 99), 0);
        Check.due("19 to the last day", x.work(0, 0, 0, 3599, 3599, 0, 0), 1);
        for (int w = 2; w < 100; w++) {
            Check.due("19 work", x.work(0, 0, 0, 2, 3, 0, 0), w);
        }
        Check.due("19 100 are there", x.work(0, 0, 0, 2, 3, 0, 0), -1);
        Check.due("19 works", x.count(7), 100);
    }

    private static void telling() {
        IceTreaty x = Check.land(1);
        x.work(0, 0, 0, 0, 9, 0, 0);
        Check.days(x, 3);
        Check.due("20 no work", x.tell(1, 0), false);
        Check.due("20 no work", x.tell(-1, 0), false);
        Check.due("20 no such what", x.tell(0, 2), false);
        Check.due("20 no such what", x.tell(0, -1), false);
        Check.due("20 notice", x.tell(0, 0), true);
        Check.due("20 it was", x.tell(0, 0), false);
        x.day();
        Check.due("20 it was", x.tell(0, 0), false);
        Check.due("20 leave", x.tell(0, 1), true);
        Check.due("20 it was", x.tell(0, 1), false);
        x.day();
        Check.due("21 no work", x.study(1, 0), false);
        Check.due("21 harm", x.study(0, -1), false);
        Check.due("21 harm", x.study(0, 1001), false);
        Check.due("21 study", x.study(0, 1000), true);
        Check.due("21 one was", x.study(0, 5), false);
        Check.due("60 notice", x.about(0, 7), 3);
        Check.due("60 leave", x.about(0, 8), 4);
        Check.due("60 study", x.about(0, 9), 5);
        Check.due("60 harm", x.about(0, 10), 1000);
    }

    private static void consent() {
        IceTreaty x = new IceTreaty();
        Check.text(x, "c(1=1)");
        x.party(false);
        x.work(1, 0, 0, 0, 9, 0, 0);
        x.say(0, 0, true);
        Check.due("23 nobody decides: not more than half", x.may(0, 0, false), 5);
        x.party(true);
        Check.due("23 none of one", x.may(0, 0, false), 5);
        Check.due("22 say", x.say(1, 0, true), true);
        Check.due("23 one of one", x.may(0, 0, false), 0);
        x.party(true);
        Check.due("23 one of two is not more than half", x.may(0, 0, false), 5);
        x.party(true);
        x.say(2, 0, true);
        Check.due("23 two of three", x.may(0, 0, false), 0);
        Check.due("22 one who listens may speak", x.say(0, 0, false), true);
        Check.due("23 but does not matter", x.may(0, 0, false), 0);
        x.say(3, 0, false);
        Check.due("23 one says no", x.may(0, 0, false), 5);
        x.say(3, 0, true);
        Check.due("23 the latest counts", x.may(0, 0, false), 0);
        x.day();
        x.party(true);
        x.party(true);
        x.party(true);
        Check.due("23 three of six", x.may(0, 1, false), 5);
        Check.due("23 three of three on the day ahead", x.may(0, 0, false), 0);
        x.say(6, 0, false);
        Check.due("23 it does not decide on that day", x.may(0, 0, false), 0);
        Check.due("22 no party", x.say(7, 0, true), false);
        Check.due("22 no party", x.say(-1, 0, true), false);
        Check.due("22 no work", x.say(0, 1, true), false);
        Check.due("22 no work", x.say(0, -1, true), false);
    }

    private static void consentAsSaidNow() {
        IceTreaty x = Check.land(1);
        Check.text(x, "c(1=1)");
        x.work(1, 0, 0, 1, 9, 0, 0);
        Check.days(x, 2);
        Check.due("60 held without consent", x.about(0, 6), 2);
        x.say(0, 0, true);
        Check.due("23 consent of a day gone by, as said now", x.may(0, 0, false), 0);
        x.day();
        Check.due("60 done with it", x.about(0, 5), 1);
        x.say(0, 0, false);
        Check.due("23 no consent of a day gone by, as said now", x.may(0, 3, false), 5);
        x.day();
        Check.due("60 held again", x.about(0, 6), 3);
    }

    private static void notice() {
        IceTreaty x = Check.land(1);
        Check.text(x, "n(a=1)3;s(a=2)2;l(a=3)");
        x.work(1, 0, 0, 3, 9, 0, 0);
        x.work(1, 0, 0, 4, 9, 0, 0);
        x.work(2, 0, 0, 2, 9, 0, 0);
        x.work(2, 0, 0, 3, 9, 0, 0);
        x.work(3, 0, 0, 0, 9, 0, 0);
        x.day();
        Check.due("23 no notice", x.may(1, 4, false), 3);
        Check.due("23 no study", x.may(3, 3, false), 4);
        Check.due("23 no leave", x.may(4, 3, false), 2);
        for (int w = 0; w < 5; w++) {
            x.tell(w, 0);
            x.tell(w, 1);
            x.study(w, 0);
        }
        Check.due("23 two days ahead of its first day", x.may(0, 3, false), 3);
        Check.due("23 whichever day is asked about", x.may(0, 9, false), 3);
        Check.due("23 three days ahead", x.may(1, 4, false), 0);
        Check.due("23 even on a day ahead of the notice", x.may(1, 0, false), 0);
        Check.due("23 a study one day ahead", x.may(2, 9, false), 4);
        Check.due("23 a study two days ahead", x.may(3, 0, false), 0);
        Check.due("23 leave was not there on day 0", x.may(4, 0, false), 2);
        Check.due("23 leave was there on day 1", x.may(4, 1, false), 0);
        IceTreaty y = Check.land(1);
        Check.text(y, "n(a=1)999999;s(a=2)0");
        y.work(1, 0, 0, 3599, 3599, 0, 0);
        y.work(2, 0, 0, 1, 3599, 0, 0);
        y.tell(0, 0);
        Check.due("23 far too late", y.may(0, 3599, false), 3);
        y.day();
        y.study(1, 0);
        Check.due("23 0 days ahead is its first day", y.may(1, 9, false), 0);
    }

    private static void order() {
        IceTreaty x = Check.land(2);
        Check.text(x, "z;n(a=2)5;f(a=2);f(1/[a-3]=1)");
        Check.text(x, "c(a=2|a=4);l(a<9)");
        x.yes(0, 1);
        x.work(2, 0, 0, 0, 9, 0, 0);
        x.work(3, 0, 0, 0, 9, 0, 0);
        x.work(4, 0, 0, 0, 9, 0, 0);
        x.work(5, 0, 0, 0, 9, 0, 0);
        x.work(5, 1, 0, 0, 9, 0, 0);
        int[][] due = {{0, 3, 0, 1}, {1, 6, 0, 3}, {2, 1, 0, 3}, {3, 2, 1, 1}, {4, 0, -1, -1}};
        for (int[] d : due) {
            Check.due("23 may(" + d[0] + ")", x.may(d[0], 3, false), d[1]);
            Check.due("24 why(" + d[0] + ") text", x.why(d[0], 3, false, 0), d[2]);
            Check.due("24 why(" + d[0] + ") clause", x.why(d[0], 3, false, 1), d[3]);
        }
        Check.due("24 others", x.why(0, 3, false, 2), -1);
        Check.due("24 others", x.why(0, 3, false, -1), -1);
        Check.due("24 no work", x.why(5, 3, false, 0), -1);
        Check.due("24 no day", x.why(0, 3600, false, 0), -1);
        Check.due("24 no day", x.why(0, -1, false, 1), -1);
        Check.due("23 no work", x.may(5, 3, false), -1);
        Check.due("23 no work", x.may(-1, 3, false), -1);
        Check.due("23 no day", x.may(0, 3600, false), -1);
        Check.due("23 no day", x.may(0, -1, false), -1);
        Check.text(x, "x0.1;x0.2;x0.3;x1.0;x1.1");
        x.yes(0, 2);
        Check.due("23 all are struck", x.may(0, 3, false), 0);
    }

    /** Whether a condition holds of a work, by a reading of clause 0 of text 0. */
    private static boolean is(IceTreaty x, int w, int day, String condition) {
        x.check(0);
        Check.reading(x, x.about(w, 1), 0, 0, "(" + condition + ")");
        return x.may(w, day, true) == 1;
    }

    private static void letters() {
        IceTreaty x = new IceTreaty();
        x.party(false);
        x.party(false);
        Check.text(x, "f(1=0);q1");
        x.cell(19, 33, 1, -1, 0);
        x.work(0, 1, 19, 0, 9, 77, 88);
        x.reserve(18, 20, 4);
        x.reserve(0, 19, 6);
        x.reserve(19, 19, 5);
        x.reserve(20, 63, 9);
        x.day();
        Check.due("23 a", is(x, 0, 5, "a=0"), true);
        Check.due("23 p", is(x, 0, 5, "p=1"), true);
        Check.due("23 b: it decides from day 1", is(x, 0, 1, "b=1"), true);
        Check.due("23 b on the day ahead", is(x, 0, 0, "b=0"), true);
        Check.due("23 h", is(x, 0, 5, "h=33"), true);
        Check.due("23 i", is(x, 0, 5, "i=1"), true);
        Check.due("23 r", is(x, 0, 5, "r=6"), true);
        Check.due("23 t", is(x, 0, 5, "t=77"), true);
        Check.due("23 e", is(x, 0, 5, "e=88"), true);
        Check.due("23 d", is(x, 0, 725, "d=5"), true);
        Check.due("23 y", is(x, 0, 725, "y=2"), true);
        Check.due("23 m", is(x, 0, 725, "m=0"), true);
        Check.due("23 m on the first dark day", is(x, 0, 480, "m=1"), true);
        Check.due("23 m on the last one", is(x, 0, 599, "m=1"), true);
        Check.due("23 m behind it", is(x, 0, 600, "m=0"), true);
        Check.due("23 no s", is(x, 0, 5, "s=0&n=0&o=0"), true);
        x.cell(19, 34, 0, -1, 0);
        Check.due("23 as all stands now", is(x, 0, 0, "h=34&i=0"), true);
    }

    private static void daysAndYears() {
        int[][] due = {{0, 0, 0, 0}, {119, 0, 119, 0}, {120, 0, 120, 1}, {239, 0, 239, 1}, {240, 0, 240, 0}, {359, 0, 359, 0},
            {360, 1, 0, 0}, {479, 1, 119, 0}, {480, 1, 120, 1}, {719, 1, 359, 0}, {720, 2, 0, 0}, {3599, 9, 359, 0}};
        for (int[] d : due) {
            String letters = "y=" + d[1] + "&d=" + d[2] + "&m=" + d[3];
            IceTreaty x = Check.land(1);
            Check.text(x, "f(" + letters + ")");
            x.work(3, 0, 0, 0, 9, 0, 0);
            Check.due("23 day " + d[0] + ": " + letters, x.may(0, d[0], false), 1);
        }
    }

    private static void reservesAlone() {
        IceTreaty x = Check.land(1);
        Check.text(x, "f(1=0)");
        x.claim(0, 0, 63, 99);
        x.station(0, 9, 0, 0);
        x.field(1, 9);
        x.work(3, 0, 9, 0, 9, 0, 0);
        Check.due("23 r of no reserve is 0, whatever else is there", is(x, 0, 0, "r=0"), true);
        x.reserve(9, 9, 1);
        Check.due("23 r is no title", is(x, 0, 0, "r=1"), true);
        x.reserve(0, 8, 9);
        Check.due("23 r of those alone that have the cell", is(x, 0, 0, "r=1"), true);
    }

    private static void lostStations() {
        IceTreaty x = Check.land(2);
        Check.text(x, "f(1=0)");
        x.cell(0, 0, 0, 0, 10);
        x.station(0, 0, 0, 0);
        x.work(3, 1, 27, 0, 99, 0, 0);
        Check.days(x, 10);
        Check.due("23 it is lost", x.look(0, 5), 1);
        Check.due("23 o counts lost ones, too", is(x, 0, 10, "o=1"), true);
    }

    private static void nearness() {
        IceTreaty x = Check.land(2);
        Check.text(x, "f(1=0)");
        x.work(3, 1, 27, 0, 9, 0, 0);
        int[] far = {27, 28, 36, 29, 45, 30, 54, 31};
        for (int c : far) {
            x.site(c, false);
            x.site(c, true);
            x.station(0, c, 0, 0);
            x.station(1, c, 0, 0);
            x.field(x.count(4) - 2, c);
        }
        Check.due("23 s", is(x, 0, 0, "s=3"), true);
        Check.due("23 n", is(x, 0, 0, "n=5"), true);
        x.station(0, 26, 0, 0);
        Check.due("23 o", is(x, 0, 0, "o=8"), true);
        Check.due("23 r without reserves", is(x, 0, 0, "r=0"), true);
    }

    private static void arithmetic() {
        String[] hold = {"1+2*3=7", "[1+2]*3=9", "10-4-3=3", "100/10/5=2", "17%5*2=4", "2*17%5=4", "7/2=3", "[0-7]/2=0-3",
            "[0-7]%2=0-1", "999999*999999/1000=0-729379", "999999*999999<0", "999999*999999*999999>0",
            "65536*65536=0", "[65536*32768]/[0-1]=65536*32768", "[65536*32768]%[0-1]=0", "2<3", "3>2", "t=7", "t*t-49=0",
            "000012=12", "1=0|1=1", "1=1|1=0", "1=1&2=2", "1=0|1=1&2=2", "1=1&1=0|2=2", "1=1|1=1&1=0", "!1=0", "!!1=1",
            "!(1=1&1=0)", "!1=0&2=2", "!(1=0|1=0)&2=2", "(1=0|1=1)&2=2", "1=0|1=0|1=1", "[[2]+[3]]=5"};
        for (String c : hold) {
            Check.due("23 " + c, holds(c), 1);
        }
        String[] fail = {"2<2", "3<2", "2>2", "2>3", "2=3", "1=1&1=0", "(1=1|1=0)&1=0", "1=0&1=1|1=0", "!1=1", "!1=1&1=1",
            "!(1=0|1=1)", "1=0&(1=1|1=1)"};
        for (String c : fail) {
            Check.due("23 " + c, holds(c), 0);
        }
    }

    /** What may() answers of a work of kind 3 with 7 people by f(condition). */
    private static int holds(String condition) {
        IceTreaty x = Check.land(1);
        Check.text(x, "f(" + condition + ")");
        x.work(3, 0, 27, 0, 9, 7, 0);
        return x.may(0, 0, false);
    }

    private static void asMuchAsMatters() {
        String[] refused = {"1/0=1", "1%0=1", "0/0=0", "1=1/0", "1=0|1/0=1", "1=1&1/0=1", "!1/0=1", "(1=0|1/0=0)|1=1",
            "1/[a-3]=1", "0*[1/0]=0", "1=0&1/0=1|1/0=1", "1/0=1|1=1", "1/0=1&1=0", "[1/0]-[1/0]=0"};
        for (String c : refused) {
            Check.due("23 " + c, holds(c), 6);
        }
        Check.due("23 what does not matter", holds("1=1|1/0=1"), 1);
        Check.due("23 what does not matter", holds("1=0&1/0=1"), 0);
        Check.due("23 what does not matter", holds("1=1|1/0=1|1/0=2"), 1);
        Check.due("23 what does not matter", holds("1=0&1/0=1&1/0=2"), 0);
        Check.due("23 what does not matter", holds("1=0&1/0=1|1=1"), 1);
        Check.due("23 what does not matter", holds("1=0&(1=1|1/0=1)|1=1|1/0=0"), 1);
        Check.due("23 what does not matter", holds("(1=1|1/0=1)&1=0"), 0);
        Check.due("23 what does not matter", holds("!(1=0&1/0=1)"), 1);
        IceTreaty x = Check.land(1);
        Check.text(x, "l(1/0=1);n(1/0=1)0;s(1/0=1)0;c(1/0=1)");
        x.work(3, 0, 27, 0, 9, 7, 0);
        x.tell(0, 0);
        x.tell(0, 1);
        x.study(0, 0);
        x.say(0, 0, true);
        Check.due("23 refused even with leave", x.may(0, 0, false), 6);
        Check.due("24 refused even with leave", x.why(0, 0, false, 1), 0);
    }

    private static void struckIsNotAsked() {
        IceTreaty x = Check.land(1);
        Check.text(x, "f(1/0=1);f(a=4)");
        Check.text(x, "x0.0");
        x.work(3, 0, 27, 0, 9, 7, 0);
        x.work(4, 0, 27, 0, 9, 7, 0);
        Check.due("23 refused", x.may(0, 0, false), 6);
        x.yes(0, 1);
        Check.due("23 what is struck is not asked", x.may(0, 0, false), 0);
        Check.due("23 what is struck is not asked", x.may(1, 0, false), 1);
        Check.due("24 the clause that bars", x.why(1, 0, false, 1), 1);
    }

    private static void refusedAgainAndAgain() {
        IceTreaty x = Check.land(1);
        Check.text(x, "f(a=4&1<[1+2*[3/[4-a]]]);f(a=5&1<[1+2*[3/[4-a]]])");
        x.work(4, 0, 27, 0, 9, 7, 0);
        x.work(5, 0, 27, 0, 9, 7, 0);
        for (int i = 0; i < 50; i++) {
            Check.due("23 refused", x.may(0, 0, false), 6);
        }
        Check.due("23 nothing is left of what was refused", x.may(1, 0, false), 0);
        Check.due("23 refused", x.may(0, 0, false), 6);
    }

    private static void readings() {
        IceTreaty x = Check.land(2);
        Check.text(x, "f(a=1);l(a=2)");
        Check.text(x, "f(a=9)");
        x.work(1, 0, 0, 1, 9, 0, 0);
        x.work(1, 1, 0, 1, 9, 0, 0);
        Check.reading(x, 0, 0, 0, "(a=2)");
        Check.due("23 by its own reading", x.may(0, 1, true), 0);
        Check.due("23 by all", x.may(0, 1, false), 1);
        Check.due("23 another party's reading", x.may(1, 1, true), 1);
        Check.due("24 by its own reading", x.why(0, 1, true, 0), -1);
        Check.due("24 by all", x.why(0, 1, false, 0), 0);
        Check.reading(x, 0, 0, 1, "(a=1)");
        Check.due("23 a reading of the second clause", x.may(0, 1, true), 2);
        Check.due("24 a reading of the second clause", x.why(0, 1, true, 1), 1);
        Check.reading(x, 0, 0, 1, "(a/0=1)");
        Check.due("23 the latest counts", x.may(0, 1, true), 6);
        Check.reading(x, 0, 0, 1, "(a=3)");
        Check.due("23 the latest counts", x.may(0, 1, true), 0);
        x.day();
        Check.due("60 it is held by all", x.about(0, 6), 1);
        Check.due("60 it is not done by readings", x.about(0, 5), 0);
        Check.reading(x, 0, 1, 0, "(a=1)");
        Check.due("23 a text that does not bind", x.may(0, 1, true), 0);
        x.yes(0, 1);
        Check.due("23 a text that binds", x.may(0, 1, true), 1);
        Check.due("24 a text that binds", x.why(0, 1, true, 0), 1);
    }

    /** A reading tells another C alone: N, and what is asked for, stay those of the clause. */
    private static void readingsOfAllLetters() {
        String[] clauses = {"f(a=1)", "l(a=1)", "n(a=1)3", "s(a=1)3", "c(a=1)"};
        for (int i = 0; i < clauses.length; i++) {
            IceTreaty x = Check.land(2);
            Check.text(x, "z;" + clauses[i]);
            x.work(2, 0, 0, 3, 9, 0, 0);
            x.work(2, 0, 0, 2, 9, 0, 0);
            Check.due("15 reading of " + clauses[i], Check.reading(x, 0, 0, 1, "(a=2)"), 0);
            Check.due("23 " + clauses[i] + " read in its own way", x.may(0, 3, true), i + 1);
            Check.due("24 " + clauses[i] + " read in its own way", x.why(0, 3, true, 1), 1);
            Check.due("23 " + clauses[i] + " by all", x.may(0, 3, false), 0);
            for (int w = 0; w < 2; w++) {
                x.tell(w, 0);
                x.tell(w, 1);
                x.study(w, 0);
                x.say(0, w, true);
                x.say(1, w, true);
            }
            Check.due("23 " + clauses[i] + " with all that is asked for", x.may(0, 3, true), i == 0 ? 1 : 0);
            Check.due("23 " + clauses[i] + " with N of the clause", x.may(1, 3, true), i == 0 ? 1 : i == 2 ? 3 : i == 3 ? 4 : 0);
        }
    }

    private static void done() {
        IceTreaty x = Check.land(1);
        Check.text(x, "f(d=3);f(y=1)");
        x.work(0, 0, 0, 0, 4, 0, 0);
        x.work(0, 0, 0, 2, 2, 0, 0);
        x.work(5, 0, 0, 3, 3, 0, 0);
        Check.due("60 nothing is done on the day of its telling", x.about(0, 5), 0);
        Check.days(x, 6);
        Check.due("60 done", x.about(0, 5), 3);
        Check.due("60 held", x.about(0, 6), 1);
        Check.due("60 done on its one day", x.about(1, 5), 1);
        Check.due("60 held on its one day", x.about(2, 6), 1);
        Check.due("61 science", x.sum(10), 4);
    }

    private static void about() {
        IceTreaty x = Check.land(3);
        x.work(7, 2, 33, 4, 6, 10, 20);
        int[] due = {7, 2, 33, 4, 6, 0, 0, -1, -1, -1, -1, -1, -1};
        for (int what = 0; what < due.length; what++) {
            Check.due("60 about(0, " + what + ")", x.about(0, what), due[what]);
        }
        Check.due("60 others", x.about(0, -1), -1);
        Check.due("60 no work", x.about(1, 0), -1);
        Check.due("60 no work", x.about(-1, 0), -1);
    }
}
