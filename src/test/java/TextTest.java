/** Promises 1 to 5: a new object, the tape, faults, texts. */
public final class TextTest {
    public static void main(String[] args) {
        newObject();
        tape();
        townFaults();
        townNumbers();
        lawFaults();
        texts();
        Check.finish();
    }

    private static void newObject() {
        GrudgeTown x = new GrudgeTown();
        for (int what = 0; what <= 10; what++) {
            int want = what == 4 ? GrudgeTown.NONE : what == 7 ? 2 : 0;
            Check.due("P1 count(" + what + ")", x.count(what), want);
        }
        for (int what = 0; what < 5; what++) {
            Check.due("P1 status(" + what + ")", x.status(what), 0);
        }
        Check.due("P1 rule(0)", x.rule(0), -1);
        Check.due("P1 most(5)", x.most(5), -1);
        Check.dueThrows("P1 person(0, 0)", x, 0, 0);
    }

    private static void tape() {
        GrudgeTown x = new GrudgeTown();
        Check.due("P2 nothing but 0", x.feed(0, 0, 0, 0, 0), 0);
        Check.due("P2 0 left out", x.feed(0x70003b00, 0x00000070, 0, 0, 0), 3);
        Check.due("P2 order", x.fault(0), -1);
        Check.due("P2 second", x.feed(0x3b000000, 0, 0, 0, 0x00000070), 5);
        Check.due("P2 highest first", x.text(0), 3);
        Check.due("P2 no sign", x.feed(-1, -1, -1, -1, -1), 20);
        for (int i = 2; i <= 11; i++) {
            Check.due("P2 feed " + i, x.feed(-1, -1, -1, -1, -1), 20 * i);
        }
        Check.due("P2 up to 239", x.feed(-1, -1, -1, -1, 0x01010001), 239);
        Check.due("P2 above 240", x.feed(0x01000001, 0, 0, 0, 0), -1);
        Check.due("P2 nothing came", x.count(3), 239);
        Check.due("P2 up to 240", x.feed(0, 0, 0x00010000, 0, 0), 240);
        Check.due("P2 nothing more", x.feed(0, 0, 0, 0, 0), 240);
        Check.due("P2 no more", x.feed(0, 0, 0, 0, 1), -1);
        Check.due("P2 no more", x.feed(0, 0, 0, 1, 0), -1);
        Check.due("P2 no more", x.feed(0, 0, 1, 0, 0), -1);
        Check.due("P2 no more", x.feed(0, 1, 0, 0, 0), -1);
        Check.due("P2 no more", x.feed(1, 0, 0, 0, 0), -1);
        Check.due("P2 no more", x.feed(1, 1, 1, 1, 1), -1);
        Check.due("P3 above", x.end(241), false);
        Check.due("P3 below", x.end(-1), false);
        Check.due("P3 all of it", x.end(240), true);
        Check.due("P3 count", x.count(3), 240);
        Check.due("P3 end(17)", x.end(17), true);
        Check.due("P3 count", x.count(3), 17);
        Check.due("P3 end(18)", x.end(18), false);
        Check.due("P3 end(0)", x.end(0), true);
        Check.feed(x, "p;px");
        Check.due("P3 x is wrong", x.fault(0), 3);
        Check.due("P3 the first alone", x.end(3), true);
        Check.due("P3 without it", x.fault(0), -1);
    }

    private static void townFaults() {
        GrudgeTown x = new GrudgeTown();
        town(x, "", 0);
        town(x, "   ", 3);
        town(x, "p", 1);
        town(x, "p ", 2);
        town(x, "p;", 2);
        town(x, "p;p", -1);
        town(x, " p ; p ", -1);
        town(x, "p;p;", 4);
        town(x, ";p;p", 0);
        town(x, "p;;p", 2);
        town(x, "pp", 1);
        town(x, "P;p", 0);
        town(x, "p;p\t", 3);
        town(x, "p;p" + (char) 240, 3);
        town(x, "s;p;p", -1);
        town(x, "p;s;p;s", 6);
        town(x, "sf1k2;p;p;s", 10);
        town(x, "p;p;p;p;p", -1);
        town(x, "p;p;p;p;p;p", 10);
        town(x, "p;p;g;g;g;g;g;g;g;g;g;g", -1);
        town(x, "p;p;g;g;g;g;g;g;g;g;g;g;g", 24);
        town(x, "g;g;p", 5);
        town(x, "g;p;p", -1);
        town(x, "ga2;p;p", 7);
        town(x, "ga2;p;p;p", -1);
        town(x, "go2;p;p ", 8);
        town(x, "go1;p;p", 7);
        town(x, "go1a0;p;p", -1);
        town(x, "ga0;p;p", 7);
        town(x, "ga0o1;p;p", -1);
        town(x, "ga4o4;p;p;p;p;p", 15);
        town(x, "ga4o3;p;p;p;p;p", -1);
        town(x, "pt1t2;p", 3);
        town(x, "pt1l2t", 5);
        town(x, "sf1f", 3);
        town(x, "gw1o1w", 5);
        town(x, "pf1;p", 1);
        town(x, "st1;p", 1);
        town(x, "pk1;p", 1);
        town(x, "gt1;p", 1);
        town(x, "1", 0);
    }

    private static void townNumbers() {
        GrudgeTown x = new GrudgeTown();
        town(x, "pt", 2);
        town(x, "pt;p", 2);
        town(x, "ptl1;p", 2);
        town(x, "pt 9 l 09 ; p", -1);
        town(x, "pt10;p", 3);
        town(x, "pt1 0;p", 4);
        town(x, "pt-1;p", 2);
        town(x, "pt001;p", 4);
        town(x, "pt100;p", 4);
        town(x, "pt999;p", 4);
        town(x, "pl10", 3);
        town(x, "pl00;p", -1);
        town(x, "sf9;p;p", -1);
        town(x, "sf10;p;p", 3);
        town(x, "sf100;p;p", 4);
        town(x, "sk99;p;p", -1);
        town(x, "sk100;p;p", 4);
        town(x, "p;p;go4a1", 9);
        town(x, "p;p;go5a1", 6);
        town(x, "p;p;go05a1", 7);
        town(x, "p;p;go50a1", 7);
        town(x, "p;p;ga5", 6);
        town(x, "p;p;gw30", -1);
        town(x, "p;p;gw31", 7);
        town(x, "p;p;gw0", 6);
        town(x, "p;p;gw00", 7);
        town(x, "p;p;gw01", -1);
        town(x, "p;p;gw0 1", 6);
        town(x, "p;p;gw310", 8);
        town(x, "p;p;gk2", -1);
        town(x, "p;p;gk3", 6);
        town(x, "p;p;gk20", 7);
    }

    private static void lawFaults() {
        GrudgeTown x = new GrudgeTown();
        law(x, "", 0);
        law(x, "  ", 2);
        law(x, "y", 1);
        law(x, "y:", 2);
        law(x, "y:1", -1);
        law(x, " y : 1 ", -1);
        law(x, "y:1;", 4);
        law(x, "y:1;;", 4);
        law(x, "y:1;y:2", -1);
        law(x, "y:1,y:2", 3);
        law(x, "x:1", 0);
        law(x, "y1", 1);
        law(x, "y:1234", -1);
        law(x, "y:12345", 6);
        law(x, "y:00000", 6);
        law(x, "y:1 2", 4);
        law(x, "y:1234 5", 7);
        law(x, "y:t+l-n*m/s+d", -1);
        law(x, "y:a", 2);
        law(x, "y:tl", 3);
        law(x, "y:t2", 3);
        law(x, "y:-1", 2);
        law(x, "y:1+", 4);
        law(x, "y:1+;", 4);
        law(x, "y:1*-1", 4);
        law(x, "y:[1]", -1);
        law(x, "y:[1", 4);
        law(x, "y:[]", 3);
        law(x, "y:[1)", 4);
        law(x, "y:1]", 3);
        law(x, "y:1?2", 3);
        law(x, "y:1&", 3);
        law(x, "y:1=2", 5);
        law(x, "y:1=2;", 5);
        law(x, "y:1=2?", 6);
        law(x, "y:1=2?3", -1);
        law(x, "y:1=2=3", 5);
        law(x, "y:1<2?3=4", 7);
        law(x, "y:1>2?3?4", 7);
        law(x, "y:1=(", 4);
        law(x, "y:1+(", 4);
        law(x, "y:(1=2)", 7);
        law(x, "y:(1=2)?3", -1);
        law(x, "y:(1)?3", 4);
        law(x, "y:(1=2?3", 6);
        law(x, "y:(1=2)+1", 7);
        law(x, "y:(1=2)=1", 7);
        law(x, "y:!1=2?3", -1);
        law(x, "y:!(1=2|!t>1&[d]<2)&n=m?3;y:s", -1);
        law(x, "y:!1?3", 4);
        law(x, "y:!", 3);
        law(x, "y:1=2&", 6);
        law(x, "y:1=2&3?4", 7);
        law(x, "y:1=2|!!t<1?4", -1);
        law(x, "y:1=2||", 6);
        law(x, "y:t=1?(", 6);
        law(x, "y:t=1?!", 6);
        law(x, "y:t= 1 ? [ 1 ] ", -1);
        law(x, "y:t==1?1", 4);
        law(x, "y:t<=1?1", 4);
        law(x, "y:[[[[[[1]]]]]]", -1);
        law(x, "y:[[[[[[[1]]]]]]]", 8);
        law(x, "y:!!!!!!1=1?1", -1);
        law(x, "y:!!!!!!!1=1?1", 8);
        law(x, "y:((((((1=1))))))?1", -1);
        law(x, "y:(((((((1=1)))))))?1", 8);
        law(x, "y:!(!(!([1]=1)))?1", 8);
        law(x, "y:!(!(![1]=1))?1", -1);
        law(x, "y:!(!(!1=1))&![[[[[1]]]]]=1?1", -1);
        law(x, "y:!(!(!1=1))&![[[[[[1]]]]]]=1?1", 19);
        law(x, "y:[1]+[[[[[[1]]]]]]", -1);
        law(x, "y:(1=1)&((((((1=1))))))?1", -1);
    }

    private static void texts() {
        GrudgeTown x = new GrudgeTown();
        Check.due("P4 no such sort", x.fault(2), -2);
        Check.due("P4 no such sort", x.fault(-1), -2);
        Check.feed(x, "sf3;pt1;pl2;p;ga2w9");
        Check.due("P5 no such sort", x.text(2), -1);
        Check.due("P5 no such sort", x.text(-1), -1);
        Check.due("P5 a town is no law", x.text(1), -1);
        Check.due("P5 the tape stays", x.count(3), 19);
        Check.due("P5 three persons", x.text(0), 3);
        Check.due("P5 the tape is empty", x.count(3), 0);
        Check.due("P5 no town of nothing", x.text(0), -1);
        for (int i = 0; i < 4; i++) {
            Check.feed(x, "y:" + (i + 5));
            Check.due("P5 law", x.text(1), i);
            Check.due("P5 the tape is empty", x.count(3), 0);
            Check.due("P5 laws", x.count(2), i + 1);
        }
        Check.due("P5 none holds by being told", x.count(4), -1);
        Check.feed(x, "y:1");
        Check.due("P5 four laws", x.text(1), -1);
        Check.due("P5 the tape stays", x.count(3), 3);
        Check.due("P9 law(2)", x.law(2), true);
        x.mercy(5);
        x.seen(0, 1, true);
        x.image();
        x.offends(0, 1);
        x.days(3);
        x.offends(0, 0);
        x.end(0);
        Check.feed(x, "p;p;g");
        Check.due("P5 another town", x.text(0), 2);
        Check.due("P5 day", x.count(5), 0);
        Check.due("P5 seen is gone", x.count(8), 0);
        Check.due("P5 the log is gone", x.count(9), 0);
        Check.due("P5 log(0, 0)", x.log(0, 0), -1);
        Check.due("P5 acts are gone", x.count(10), 0);
        Check.due("P5 undo()", x.undo(), -1);
        Check.due("P5 the image is gone", x.back(), -1);
        Check.due("P5 laws stay", x.count(2), 4);
        Check.due("P5 which holds stays", x.count(4), 2);
        Check.due("P5 mercy stays", x.count(7), 5);
        Check.due("P5 status stays", x.status(1), 1);
        Check.due("P5 coins", x.rule(1), 20);
        Check.due("P5 fading", x.rule(0), 1);
        Check.due("P5 told grudges", x.count(1), 1);
        Check.due("P5 temper", x.person(0, 0), 4);
        Check.due("P5 liked", x.person(0, 1), 3);
        int[] grudge = {0, 1, 6, 0};
        for (int what = 0; what < 4; what++) {
            Check.due("P5 grudge(0, " + what + ")", x.grudge(0, what), grudge[what]);
        }
        lessThanAhead();
        longest();
    }

    /** Nothing of a town, or of a fault, that was read ahead is in the next one. */
    private static void lessThanAhead() {
        GrudgeTown x = Check.town("sf3k4;pt1l1;pt2l2;pt3l3;gw9k2;ga2w9k1;go1a0w9k2");
        x.offends(0, 1);
        Check.feed(x, "sf5k6;p;p;g;g;g;g;g;g;x");
        Check.due("P5 a fault", x.text(0), -1);
        Check.due("P5 the town is as it was", x.count(6), 4);
        x.end(0);
        Check.feed(x, "p;p;g");
        Check.due("P5 two persons", x.text(0), 2);
        Check.due("P5 fading without", x.rule(0), 1);
        Check.due("P5 coins without", x.rule(1), 20);
        Check.due("P5 one grudge", x.count(6), 1);
        Check.due("P5 one told", x.count(1), 1);
        Check.due("P5 its kind", x.grudge(0, 3), 0);
        Check.due("P5 its weight", x.grudge(0, 2), 6);
        Check.due("P5 all in town", x.most(5), 3);
        Check.dueThrows("P5 no third one", x, 2, 0);
        Check.feed(x, "p;p;p;p;p");
        Check.due("P5 five persons", x.text(0), 5);
        Check.due("P5 no grudge", x.count(6), 0);
        Check.due("P5 all in town", x.most(5), 31);
    }

    /** Texts that fill the tape. */
    private static void longest() {
        GrudgeTown x = Check.town("p;p");
        Check.due("P4 it ends too early", Check.faultOf(x, 1, "y:" + "1+".repeat(119)), 240);
        Check.law(x, "y:" + "1+".repeat(10) + "0+".repeat(107) + "11+7");
        Check.due("P5 a law of 240 bytes", x.weighs(0, 1), 28);
        Check.law(x, "y:0=1?9;".repeat(29) + "y:d=0?24");
        Check.due("P5 a law of thirty clauses", x.weighs(0, 1), 24);
        Check.feed(x, " ".repeat(237) + "p;p");
        Check.due("P5 a town of 240 bytes", x.text(0), 2);
    }

    private static void town(GrudgeTown x, String text, int want) {
        Check.due("P4 town " + text, Check.faultOf(x, 0, text), want);
    }

    private static void law(GrudgeTown x, String text, int want) {
        Check.due("P4 law " + text, Check.faultOf(x, 1, text), want);
    }
}
