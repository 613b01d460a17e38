/** Promises 9 to 11: the tape, its texts, and what a foot takes. */
public final class LawsTest {
    private static final Due due = new Due("laws");

    public static void main(String[] args) {
        feed();
        lawNumbers();
        faults();
        openSigns();
        wholeTape();
        values();
        heldWithin();
        lines();
        names();
        abreast();
        takesBad();
        due.end();
    }

    private static void feed() {
        HollowSteps x = new HollowSteps();
        for (int n : new int[] {0, 5, -1, Integer.MIN_VALUE, Integer.MAX_VALUE}) {
            due.is("feed(" + n + ", 1)", x.feed(n, 1), -1);
        }
        due.is("empty", x.count(3), 0);
        due.is("feed(1, 'h' and more)", x.feed(1, 0x7a7a7a68), 1);
        due.is("only h came", x.law(), 0);
        due.is("feed(2, ..)", x.feed(2, 0x7a7a2b68), 2);
        due.is("feed(3, ..)", x.feed(3, 0x7a682b68), 5);
        due.is("h+h+h", x.law(), 1);
        x.step(40, 0, 1);
        due.is("4 + 4 + 4", x.takes(1, 0, 0), 12);
        due.is("feed(4, '12-5')", x.feed(4, 0x352d3231), 4);
        due.is("law", x.law(), 2);
        due.is("the lowest byte came first", x.takes(2, 0, 0), 7);
        due.is("feed(4, negative)", x.feed(4, 0xff000000), 4);
        for (int n = 8; n <= 116; n += 4) {
            due.is("feed to " + n, x.feed(4, 0), n);
        }
        due.is("feed to 117", x.feed(1, 0), 117);
        due.is("no room for 4", x.feed(4, 0), -3);
        due.is("none of them came", x.count(3), 117);
        due.is("not as said is named first", x.feed(5, 0), -1);
        due.is("feed to 120", x.feed(3, 0), 120);
        due.is("no room for 1", x.feed(1, 0), -3);
        due.is("120 bytes", x.count(3), 120);
    }

    private static void lawNumbers() {
        HollowSteps x = new HollowSteps();
        due.is("nothing on the tape", x.law(), -100);
        due.is("law 0", Texts.law(x, "1"), 0);
        due.is("the tape is empty", x.count(3), 0);
        due.is("a fault", Texts.law(x, "1+"), -102);
        due.is("the tape is empty behind a fault", x.count(3), 0);
        due.is("law 1", Texts.law(x, "2"), 1);
        due.is("law 2", Texts.law(x, "3"), 2);
        due.is("law 3", Texts.law(x, "4"), 3);
        due.is("a fifth", Texts.law(x, "5"), -3);
        due.is("the tape stays", x.count(3), 1);
        due.is("a faulty fifth", Texts.law(x, "+"), -3);
        due.is("the tape stays", x.count(3), 2);
        due.is("four laws", x.count(1), 4);
        x.step(10, 0, 1);
        for (int law = 0; law < 4; law++) {
            due.is("each law is its own", x.takes(law, 0, 0), law + 1);
        }
    }

    private static void fault(String text, int place) {
        due.is("fault of " + text, Texts.law(new HollowSteps(), text), place < 0 ? 0 : -100 - place);
    }

    private static void faults() {
        String[] lawful = {"h", "0", "0000", "9999", "1|2|3", "1&2&3", "1<2", "1=2", "1>2", "(1<2)<3", "1<2&3<4|5=6",
            "1+2-3", "1*2/3%4", "-1", "--1", "!1", "!-!-1", "(h)", "((h))", "h?w", "h?w;k", "h;w;k", "h?w;k?x;d?s",
            "1--1", "1*-1", "1<-1", "!h=w", "-h*w", "1-!1", "(1|2)*3", "h?(w)"};
        for (String text : lawful) {
            fault(text, -1);
        }
        String[] atOnce = {"", "+", "*", "/", "%", "<", "=", ">", "&", "|", "?", ";", ")", " ", "H", "a", "~", "\0", "\377"};
        for (String text : atOnce) {
            fault(text, 0);
        }
        fault("h ", 1);
        fault("h w", 1);
        fault("hw", 1);
        fault("1h", 1);
        fault("h1", 1);
        fault("12345", 4);
        fault("00000", 4);
        fault("(12345)", 5);
        fault("h!", 1);
        fault("h(", 1);
        fault("h)", 1);
        fault("()", 1);
        fault("(h))", 3);
        fault("(h", 2);
        fault("(", 1);
        fault("!", 1);
        fault("-", 1);
        fault("h+", 2);
        fault("h+*", 2);
        fault("h?", 2);
        fault("h?;", 2);
        fault("h?w?x", 3);
        fault("(h?w)", 2);
        fault("(h;w)", 2);
        fault("h;", 2);
        fault("h;;w", 2);
        fault(";h", 0);
        fault("h?w;", 4);
        fault("1<2<3", 3);
        fault("1<2=3", 3);
        fault("1=2>3", 3);
        fault("1+1>2*2<3", 7);
        fault("(1<2=3)", 4);
        fault("1&2|3<4>5", 7);
        fault("h\0", 1);
        fault("h\377", 1);
        fault("h?w;k?x?", 7);
    }

    private static void openSigns() {
        fault("((((((h))))))", -1);
        fault("(((((((h)))))))", 6);
        fault("!!!!!!h", -1);
        fault("!!!!!!!h", 6);
        fault("------1", -1);
        fault("-------1", 6);
        fault("1-------1", -1);
        fault("1--------1", 8);
        fault("1-------", 8);
        fault("(-!(-!h))", -1);
        fault("(-!(-!(h)))", 6);
        fault("(-!(-!-h))", 6);
        fault("!!!!!!h+!!!!!!w", -1);
        fault("(!!!!!h+!!!!!w)", -1);
        fault("(!!!!!h+!!!!!!w)", 13);
        fault("((((((h))))))*((((((w))))))", -1);
        fault("(((((1-1)))))-(((((1)))))", -1);
        fault("((((((1-1))))))", -1);
        fault("((((((-1))))))", 6);
        fault("!!!(((", 6);
        fault("!!!(((!", 6);
        fault("h?!!!!!!w;!!!!!!k", -1);
    }

    private static void wholeTape() {
        String bits = "1+".repeat(59);
        due.is("119 bytes", law(bits + "1"), 60);
        due.is("120 bytes", law(bits + "22"), 81);
        HollowSteps x = new HollowSteps();
        due.is("120 bytes that end too early", Texts.law(x, "1+".repeat(60)), -220);
        due.is("many minus", law("1" + "--1".repeat(39)), 40);
        due.is("many lines", law("0?1;".repeat(29) + "1?7"), 7);
        due.is("60 lines", law("0?1;".repeat(29) + "1;12"), 1);
    }

    /** What a text takes on a step of HARD 6, wet, UNLIKE 4, at a cell 3 from the path, down, shoe 9. */
    private static int law(String text) {
        HollowSteps x = new HollowSteps();
        x.step(10, 0, 50);
        x.step(61, 0, 46);
        Texts.law(x, text);
        return x.takes(0, 15, 2190);
    }

    private static void value(String text, int want) {
        due.is("value of " + text, law(text), want);
    }

    private static void values() {
        value("7+3", 10);
        value("7-3", 4);
        value("7-3-2", 2);
        value("7-(3-2)", 6);
        value("7*3", 21);
        value("100/7/2", 7);
        value("100/(7/2)", 33);
        value("17%5", 2);
        value("2+3*4", 14);
        value("(2+3)*4", 20);
        value("2*3%4", 2);
        value("7/0", 0);
        value("7%0", 0);
        value("5+7/0", 5);
        value("(0-7)/2+10", 7);
        value("(0-7)%4+10", 7);
        value("7/(0-2)+10", 7);
        value("7%(0-4)", 3);
        value("3<4", 1);
        value("4<4", 0);
        value("4=4", 1);
        value("4=5", 0);
        value("5>4", 1);
        value("5>5", 0);
        value("-1<0", 1);
        value("1+2<4", 1);
        value("2|0", 1);
        value("0|0", 0);
        value("0|0|9", 1);
        value("2&3", 1);
        value("2&0", 0);
        value("2&3&0", 0);
        value("1|0&0", 1);
        value("(1|0)&0", 0);
        value("1<2&2<3", 1);
        value("!0", 1);
        value("!5", 0);
        value("!!5", 1);
        value("!0*5", 5);
        value("!(0*5)", 1);
        value("-2+5", 3);
        value("-2*-3", 6);
        value("5--2", 7);
        value("5-!0", 4);
        value("-(2-5)", 3);
        value("!-1+1", 1);
        value("-!0+3", 2);
        value("007", 7);
        value("0|5*0", 0);
        value("1|1/0", 1);
        value("9999*9999*9999*9999%1000+500", (9999 * 9999 * 9999 * 9999) % 1000 + 500);
        value("(8192*8192*32)=-(8192*8192*32)", 1);
        value("(8192*8192*32)<0", 1);
        value("(8192*8192*32)/-1=8192*8192*32", 1);
        value("(8192*8192*32)%-1=0", 1);
        value("(8192*8192*32-1)>0", 1);
    }

    private static void heldWithin() {
        value("9999", 9999);
        value("9999+1", 9999);
        value("9999*9", 9999);
        value("-1", 0);
        value("0-5", 0);
        value("8192*8192*32", 0);
        value("8192*8192*32-1", 9999);
    }

    private static void lines() {
        value("5", 5);
        value("5;6", 5);
        value("0?5;6", 6);
        value("1?5;6", 5);
        value("-1?5;6", 5);
        value("0?5", 0);
        value("0?5;0?6", 0);
        value("0?5;2?6;1?7", 6);
        value("0?5;2?0;1?7", 0);
        value("0?5;0;7", 0);
        value("h=6?8;9", 8);
        value("h=7?8;9", 9);
        value("1?9999+9;5", 9999);
        value("1?0-9;5", 0);
        value("0|1?0|7;5", 1);
        value("0|0?6;0|0?7;8|0", 1);
        HollowSteps x = new HollowSteps();
        x.step(10, 0, 1);
        Texts.law(x, "1;2;3;4;5;6;7;8");
        Texts.law(x, "0?9");
        due.is("nothing is left of the LAW before", x.takes(1, 0, 0), 0);
    }

    private static void names() {
        value("h", 6);
        value("w", 1);
        value("k", 4);
        value("x", 3);
        value("d", 1);
        value("s", 9);
        value("b", 0);
        HollowSteps x = new HollowSteps();
        x.step(90, 0, 50);
        x.step(20, 0, 99);
        Texts.law(x, "h*1000+w*100+k");
        Texts.law(x, "x*1000+d*100+s*10+b");
        due.is("h w k of step 0", x.takes(0, 0, 0), 9000);
        due.is("h w k of step 1", x.takes(0, 10, 0), 2049);
        due.is("x d s b", x.takes(1, 17, 2130), 5130);
        due.is("x from below", x.takes(1, 0, 7000), 7000);
        due.is("up", x.takes(1, 3, 3090), 90);
        x.mend(0, 1, 98);
        x.mend(1, 0, 3);
        due.is("h w k mended", x.takes(0, 10, 0), 3001);
    }

    private static void abreast() {
        HollowSteps x = new HollowSteps();
        x.step(10, 0, 50);
        Texts.law(x, "1+x*10+b*100");
        Texts.law(x, "9000-x*1000");
        due.is("one goes", x.takes(0, 2, 1000), 11);
        due.is("two go: 1 and 4 cells off", x.takes(0, 2, 1001), 11 + 41 + 200);
        due.is("from the other side alike", x.takes(0, 2, 6001), 11 + 41 + 200);
        due.is("both held within bounds", x.takes(1, 0, 7001), 2000 + 9000);
        Texts.law(x, "9000+b*9000");
        due.is("each held by itself", x.takes(2, 0, 1), 19998);
        Texts.law(x, "1-x");
        due.is("none below 0", x.takes(3, 0, 1), 1);
    }

    private static void takesBad() {
        HollowSteps x = new HollowSteps();
        x.step(10, 0, 50);
        due.is("no law", x.takes(0, 0, 0), -1);
        Texts.law(x, "5");
        due.is("takes", x.takes(0, 7, 7191), 10);
        int[][] bad = {{1, 0, 0}, {-1, 0, 0}, {0, 8, 0}, {0, 10, 0}, {0, -1, 0}, {0, 0, -1}, {0, 0, 8000}, {0, 0, 200},
            {0, 0, 2}, {0, 0, 9}, {0, 0, 7900}, {Integer.MAX_VALUE, 0, 0}, {0, Integer.MIN_VALUE, 0},
            {0, 0, Integer.MIN_VALUE}, {0, 0, Integer.MAX_VALUE}};
        for (int[] a : bad) {
            due.is("takes(" + a[0] + ", " + a[1] + ", " + a[2] + ")", x.takes(a[0], a[1], a[2]), -1);
        }
    }
}
