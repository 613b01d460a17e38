/** Promises 10 and 11: what is a TEXT, where it has its FAULT, and what it gives. */
final class EdgesOfTexts {
    private EdgesOfTexts() {
    }

    static void tell(Edges edges) {
        edges.test(10, "LINES, one or more, parted by ;", EdgesOfTexts::lines);
        edges.test(10, "LINE: E, or E ? E (what counts if the first is not 0).", EdgesOfTexts::line);
        edges.test(10, "E = A { | A }.", x -> joined(x, '|'));
        edges.test(10, "A = B { & B }.", x -> joined(x, '&'));
        edges.test(10, "B = S, or S < S, S = S, S > S.", EdgesOfTexts::compared);
        edges.test(10, "S = P { + P, - P }.", EdgesOfTexts::sums);
        edges.test(10, "P = O { * O, / O, % O }.", EdgesOfTexts::products);
        edges.test(10, "O = a number (1 to 4 digits)", EdgesOfTexts::digits);
        edges.test(10, "a NAME, ! O, - O, ( E ).", EdgesOfTexts::operands);
        edges.test(10, "No blanks.", EdgesOfTexts::noBlanks);
        edges.test(10, "At most 6 of ( ! - ahead of an O are open at once.", EdgesOfTexts::sixOpen);
        edges.test(10, "FAULT: the place (from 0) of the first byte with which no TEXT goes on", EdgesOfTexts::firstByte);
        edges.test(10, "the length, if it ends too early.", EdgesOfTexts::tooEarly);
        edges.test(11, "Ints that wrap;", EdgesOfTexts::wrap);
        edges.test(11, "/ and % toward 0,", EdgesOfTexts::towardZero);
        edges.test(11, "by 0 they give 0;", EdgesOfTexts::byZero);
        edges.test(11, "| & < = > ! give 1, 0;", EdgesOfTexts::oneOrZero);
        edges.test(11, "all is worked out.", EdgesOfTexts::allIsWorkedOut);
        edges.test(11, "The first LINE without a first E, or whose first E is not 0, counts; none: 0.",
                EdgesOfTexts::lineThatCounts);
    }

    private static void lawful(Asked x, String... texts) {
        for (String text : texts) {
            Asked y = x.another();
            y.feed(text);
            y.due(0, "law");
        }
    }

    private static void fault(Asked x, int place, String... texts) {
        for (String text : texts) {
            Asked y = x.another();
            y.feed(text);
            y.due(-100 - place, "law");
            y.due(0, "count", 1);
        }
    }

    /** What the text takes of a CELL 3 off the PATH, down, by shoe 9, on a STEP of HARD 6 that is WET and 4 UNLIKE. */
    private static void value(Asked x, int want, String... texts) {
        for (String text : texts) {
            Asked y = x.another();
            y.laws(text);
            y.call("step", 10, 0, 10);
            y.call("step", 61, 0, 14);
            y.due(want, "takes", 0, 15, 2190);
        }
    }

    // ---- promise 10

    private static void lines(Asked x) {
        fault(x, 0, "", ";", ";h", ";;");
        lawful(x, "h", "h;w", "h;w;k", "h?w;k", "h;w?k");
        fault(x, 2, "h;", "h;;", "h;;w");
        fault(x, 4, "h;w;");
        lawful(x, "1;".repeat(59) + "1", "1;".repeat(59) + "12");
        fault(x, 120, "1;".repeat(60));
        value(x, 7, "0?5;".repeat(29) + "7", "7;" + "5;".repeat(58) + "5");
    }

    private static void line(Asked x) {
        lawful(x, "h", "h?w", "0?0", "h|w?k|x", "h?w;k?x;d", "h?w|k", "h?w&k|x", "h|w?k;x|d?s|b", "h;w|k");
        fault(x, 0, "?", "?h");
        fault(x, 2, "h?", "h??", "h??w", "h?;w", "h;?w");
        fault(x, 3, "h?w?", "h?w?k", "(h)(?w)", "h;w(");
        fault(x, 4, "h?w;?k", "h?w|", "h?w|)", "h;w|");
        fault(x, 2, "(h?w)", "(h;w)");
        value(x, 5, "1?5;8", "2?5;8", "-1?5;8", "!0?5;8");
        value(x, 8, "0?5;8", "1-1?5;8");
    }

    /** Parts joined by | or &: none, one, many. */
    private static void joined(Asked x, char sign) {
        lawful(x, "1", "1" + sign + "2", "h=1" + sign + "w<2", "1" + sign + "2" + sign + "3");
        lawful(x, ("1" + sign).repeat(59) + "1");
        fault(x, 0, "" + sign, sign + "1");
        fault(x, 2, "1" + sign, "1" + sign + sign + "1", "1" + sign + ")", "1" + sign + "?1", "1" + sign + ";1");
        fault(x, 4, "1" + sign + "2" + sign);
        value(x, 1, "1" + sign + "2", "3" + sign + "2" + sign + "1", ("1" + sign).repeat(59) + "1");
        value(x, 0, "0" + sign + "0", "0" + sign + "0" + sign + "0");
        value(x, 1, "1|0&0", "0&0|1", "1|1&0");
        value(x, 0, "(1|0)&0", "0&(0|1)");
    }

    private static void compared(Asked x) {
        lawful(x, "1", "1<2", "1=2", "1>2", "(1<2)<3", "1<(2<3)", "1<2|2<3", "1<2&2>3", "1<2?2<3;3<4", "1<2;2<3", "!1<2");
        fault(x, 0, "<", "=1", ">1");
        fault(x, 2, "1<", "1=", "1>", "1<<2", "1==2", "1<=2", "1>=2", "1<>2");
        fault(x, 3, "1<2<3", "1<2=3", "1<2>3", "1=2=3", "1=2<3", "1>2>3");
        fault(x, 4, "(1<2<3)");
        fault(x, 7, "1<2&3<4<5", "1<2|3=4=5", "1<2?3>4>5", "1<2;3>4>5");
        value(x, 1, "1<2", "2=2", "3>2", "-1<0", "0>-1", "1+1=2", "2*2>3", "2<3*1");
        value(x, 0, "2<2", "3<2", "2=3", "3=2", "2>2", "2>3", "2=-2");
    }

    private static void sums(Asked x) {
        lawful(x, "1", "1+2", "1-2", "1+2-3+4", "1--2", "1+-2", ("1+").repeat(59) + "1");
        fault(x, 0, "+", "+1");
        fault(x, 1, "-");
        fault(x, 2, "1+", "1-", "1++2", "1-+2", "1+)");
        fault(x, 3, "1--", "1+-");
        value(x, 4, "9-3-2", "9-(3+2)", "2+2");
        value(x, 60, "1+".repeat(59) + "1");
        value(x, 8, "2+3*2", "14-3*2", "6--2", "4--2*2");
    }

    private static void products(Asked x) {
        lawful(x, "1", "1*2", "1/2", "1%2", "1*2/3%4", "1*-2", "1/!2", "1*".repeat(59) + "1");
        fault(x, 0, "*", "/1", "%1");
        fault(x, 2, "1*", "1/", "1%", "1**2", "1*/2", "1//2", "1%%2", "1*)");
        fault(x, 3, "1*-", "1*!");
        value(x, 7, "100/7/2", "7*1", "7/1", "7%8");
        value(x, 2, "2*3%4", "17%5", "100/(7*7)", "50/7%5");
        value(x, 1, "1*".repeat(59) + "1");
        value(x, 20, "(2+3)*4", "100/5", "-4*-5");
    }

    private static void digits(Asked x) {
        fault(x, 0, "");
        value(x, 1, "1", "01", "001", "0001");
        value(x, 12, "12", "012", "0012");
        value(x, 999, "999", "0999");
        value(x, 1000, "1000");
        value(x, 9999, "9999");
        value(x, 0, "0", "00", "000", "0000");
        fault(x, 4, "12345", "00000", "00001", "123456789", "1234h", "1234(");
        fault(x, 6, "1+12345");
        fault(x, 5, "!12345", "-12345", "(12345)");
        fault(x, 9, "1234*12345");
        lawful(x, "1234+5678", "1234<5678;9");
        fault(x, 1, "1h", "h1", "1(", "1!", "1:", "1a");
        fault(x, 0, ":", "a1");
    }

    private static void operands(Asked x) {
        lawful(x, "h", "w", "k", "x", "d", "s", "b", "!h", "-h", "(h)", "!5", "-5", "(5)", "!(h)", "-(h)", "(!h)", "(-h)",
                "!-h", "-!h", "((h))");
        for (char c = 0; c < 256; c++) {
            boolean begins = "hwkxdsb0123456789".indexOf(c) >= 0;
            boolean opens = "(!-".indexOf(c) >= 0;
            if (begins) {
                lawful(x, "" + c);
            } else {
                fault(x, opens ? 1 : 0, "" + c);
            }
        }
        fault(x, 1, "hw", "h!", "h(", "h)", "()", "!)", "-)", "!+", "-*", "(;", "(?");
        fault(x, 2, "(h", "(1", "--", "!!", "((", "(h?w)", "(h;w)", "!h!", "-hw");
        fault(x, 3, "(h))", "((h", "(h)h", "(h)5", "(h)(w)", "(h)!w");
        value(x, 6, "h", "(h)", "--h", "((h))");
        value(x, 1, "w", "!!h", "-!h+1", "d", "!b");
        value(x, 4, "k");
        value(x, 3, "x");
        value(x, 9, "s");
        value(x, 0, "b", "!h", "-h");
    }

    private static void noBlanks(Asked x) {
        fault(x, 0, " ", " h", "\t", "\nh", "\rh", "\0", "\0h");
        fault(x, 1, "h ", "h +w", "h\n", "h\0", "1 2", "( h)", "! h", "- h");
        fault(x, 2, "h+ w", "h; w", "h? w", "h* w", "(h )");
        lawful(x, "h+w", "h;w", "h?w", "(h)");
        // Each of all bytes behind a NAME and behind a digit.
        for (char c = 0; c < 256; c++) {
            boolean joins = "|&<=>+-*/%?;".indexOf(c) >= 0;
            fault(x, joins ? 2 : 1, "h" + c);
            if (c >= '0' && c <= '9') {
                lawful(x, "1" + c);
            } else {
                fault(x, joins ? 2 : 1, "1" + c);
            }
        }
    }

    private static void sixOpen(Asked x) {
        for (String sign : new String[] {"(", "!", "-"}) {
            for (int n = 1; n <= 6; n++) {
                lawful(x, sign.repeat(n) + "h" + (sign.equals("(") ? ")".repeat(n) : ""));
            }
            fault(x, 6, sign.repeat(7) + "h" + (sign.equals("(") ? ")".repeat(7) : ""), sign.repeat(7), sign.repeat(8));
            fault(x, 6, sign.repeat(6), sign.repeat(6) + "+");
        }
        lawful(x, "!-(!-(h))", "((((((h))))))+((((((w))))))", "!!!!!!h+!!!!!!w", "------h------w", "((((((h-w-k))))))",
                "(((((!h+!w)))))", "(((((-h--w)))))", "(((((h)))))*(!-!-(w))");
        fault(x, 6, "!-(!-(!h))", "!-(!-(-h))", "!-(!-((h)))", "(((((!(h))))))", "(((((-!h)))))", "!!!!!(-h)");
        fault(x, 8, "((((((h+!w))))))", "((((((h--w))))))", "((((((h*(w)))))))");
        fault(x, 9, "(((((!h+!!w)))))", "(((((-h+-!w)))))");
        fault(x, 14, "((((((h))))))?", "((((((h))))))+");
        fault(x, 20, "((((((h))))))+(((((((w)))))))");
        lawful(x, "((((((h))))))?((((((w))))));!!!!!!k?------x");
        // The longest TEXTS of such signs are worked out to their ends.
        value(x, 15, "!!!!!!h+".repeat(14) + "!!!!!!h");
        value(x, 90, "------h+".repeat(14) + "------h");
        value(x, 7, "!!!!!h?h;".repeat(12) + "!!!!!!h?7;8");
        fault(x, 8, "h?!!!!!!!w", "h;-------w", "h?(((((((w)))))))");
        fault(x, 10, "h?w;!!!!!!!k");
        fault(x, 12, "h?w;k?!!!!!!!x");
        fault(x, 14, "!!!!!!h+!!!!!!!w");
    }

    private static void firstByte(Asked x) {
        fault(x, 0, "q", "+h", "zh+", ")))");
        fault(x, 1, "hq", "1q+", "w)+");
        fault(x, 2, "h+q", "h+q*+", "h?*;;", "h;+w+");
        fault(x, 119, "1+".repeat(59) + "1q", "1+".repeat(59) + "1(", "1;".repeat(59) + "1)");
        fault(x, 118, "1+".repeat(59) + "q1", "1+".repeat(59) + "q");
        lawful(x, "1+".repeat(59) + "12");
    }

    private static void tooEarly(Asked x) {
        fault(x, 0, "");
        fault(x, 1, "(", "!", "-");
        fault(x, 2, "h+", "h?", "h;", "(h", "h<", "h&", "h|", "h*");
        fault(x, 3, "h+(", "h?-", "(h+", "h;!");
        fault(x, 118, "1+".repeat(59));
        fault(x, 119, "1+".repeat(59) + "(", "(" + "1+".repeat(58) + "12");
        fault(x, 120, "1+".repeat(60), "(" + "1+".repeat(59) + "1", "1+".repeat(59) + "((");
    }

    // ---- promise 11

    private static void wrap(Asked x) {
        value(x, 1, "8192*8192*32<0", "8192*8192*32-1>0", "8192*8192*64=0", "8192*8192*32+8192*8192*32=0",
                "-(8192*8192*32)=8192*8192*32", "8192*8192*32-1+1<0", "-(8192*8192*32-1)-2>0",
                "8192*8192*32*2=0", "8192*8192*32-1=-(8192*8192*32+1)");
        // 9999 * 9999 * 9999 is 999700029999, as an int -1027349969.
        value(x, 1000 - 969, "9999*9999*9999%1000+1000");
        value(x, 0, "8192*8192*32", "8192*8192*64");
        value(x, 9999, "8192*8192*32-1");
    }

    private static void towardZero(Asked x) {
        value(x, 3, "7/2", "6/2", "(0-7)/-2", "-7/-2");
        value(x, 6, "-7/2+9", "7/-2+9", "-7%4+9");
        value(x, 9, "-1/2+9", "1/-2+9", "1/2+9", "-4/8+9", "-8%4+9", "8%-4+9");
        value(x, 3, "7%4", "7%-4", "3%4");
        value(x, 6, "-7%-4+9");
        value(x, 1, "(8192*8192*32)/-1=8192*8192*32", "(8192*8192*32)%-1=0", "-1/1=-1");
    }

    private static void byZero(Asked x) {
        value(x, 0, "7/0", "7%0", "0/0", "0%0", "-7/0", "-7%0", "7/(3-3)", "7%b", "8192*8192*32/0", "8192*8192*32%0");
        value(x, 5, "5+7/0", "5+7%0", "5-7/0*9");
        value(x, 7, "7/1", "7%8");
        value(x, 16, "7/-1+23", "7/-1*-1+9");
    }

    private static void oneOrZero(Asked x) {
        value(x, 1, "2|0", "0|2", "2|3", "-1|0", "2&3", "-1&-1", "1<2", "2=2", "2>1", "!0", "!!7");
        value(x, 0, "0|0", "2&0", "0&2", "0&0", "2<2", "3<2", "1=2", "2=1", "2>2", "1>2", "!1", "!2", "!-1");
        value(x, 9, "(2|0)+8", "(2&3)+8", "!0+8", "(1<2)+8", "(2=2)+8", "(2>1)+8");
        value(x, 8, "(0|0)+8", "(2&0)+8", "(0&2)+8", "!1+8", "!-1+8", "(2<2)+8", "(1=2)+8", "(2>2)+8", "(1>2)+8");
    }

    private static void allIsWorkedOut(Asked x) {
        value(x, 1, "1|1/0", "1|9999*9999*9999", "1|0%0");
        value(x, 0, "0&1/0", "0&9999*9999*9999", "0&0%0");
        value(x, 5, "0?1/0;5", "1|1/0?5;6");
    }

    private static void lineThatCounts(Asked x) {
        value(x, 5, "5", "5;6", "5;6;7", "1?5;6", "-1?5;6", "9999?5", "0?4;5;6", "0?3;0?4;5", "0?3;1?5;0?6;7", "!1?6;5");
        value(x, 0, "0?5", "0?5;0?6", "0?5;0?6;0?7", "0;5", "1?0;5", "0?5;0;6", "2?0-9;5");
        value(x, 8, "h=6?8;9", "h=7?9;8", "b?9;8", "d?8;9", "h=5?1;h=6?8;h=6?9");
        // A longer text ahead of it, LAW or not, leaves nothing in one where none counts.
        x.steps(1);
        x.laws("1;2;3;4;5;6;7;8");
        x.feed("5;6;7;8;9;5;6;7;");
        x.due(-116, "law");
        x.laws("0?9");
        x.due(0, "takes", 1, 0, 0);
        x.due(1, "takes", 0, 0, 0);
    }
}
