/** The language of rules, what its words say, and the faults of both languages. */
final class BoundsOfRules extends Bounds {
    /** ROOM 0, where the head is, has a DOOR to each, so that a SUM of 1 to 5 can be read off. */
    private static final String STAR = "rooms 6;door 0 1;door 0 2;door 0 3;door 0 4;door 0 5;head 0 3";
    /** Two times this is 0 in 64 bits; it is the least number there is. */
    private static final String LEAST = "65536*65536*65536*32768";

    BoundsOfRules(Sentences s) {
        super(s);
    }

    @Override
    void hold() {
        texts();
        tests();
        sums();
        numbers();
        words();
        cameFrom();
        fewAndCrowd();
        rounding();
        blanks();
        depth();
        sixty();
        faults();
    }

    private void sum(String sum, int due) {
        would(STAR, "go " + sum, due);
    }

    private void test(String test, boolean due) {
        would(STAR, "go 1 if " + test, due ? 1 : -2);
    }

    private void texts() {
        s.hold("RULES 0 to 5: texts likewise, 12 CLAUSES at most: go SUM [ if TEST ].");
        HeadCounts x = Check.in(STAR);
        for (int i = 0; i < 6; i++) {
            s.due("RULE " + i, Check.rule(x, "go " + i), i);
        }
        s.due("RULE 6 is none", Check.rule(x, "go 1"), -1);
        s.due("RULE 0 is the first", x.would(0, 0), -2);
        s.due("RULE 5 is the last", x.would(5, 0), 5);
        s.due("RULE 6 is not", x.would(6, 0), -1);
        rule(filled("go 1 if", 397) + "1=1");
        ruleFault(filled("go 1 if", 397) + "1=;", 399, 0);
        ruleFault(filled("go 1 if", 398) + "1=", 400, 0);
        would(STAR, "go 2 if 1=2;".repeat(11) + "go 1", 1);
        ruleFault("go 1;".repeat(12) + "go 1", 60, 4);
        ruleFault("go 1;".repeat(12), 60, 0);
        ruleFault("", 0, 0);
        ruleFault("go 1;", 5, 0);
        ruleFault("go 1 if", 7, 0);
        ruleFault("if 1=1", 0, 0);
        ruleFault(filled("go 1 if 1", 399) + "<", 400, 0);
        ruleFault(filled("go 1 if 1=1", 397) + "gre", 397, 0);
        ruleFault(";".repeat(400), 0, 0);
    }

    private void tests() {
        s.hold("TEST: PART { or PART }. PART: FACT { and FACT }. FACT: not FACT | [ TEST ] (these brackets are signs) "
            + "| SUM SIGN SUM, SIGN one of < <= = >= >.");
        test("1<2", true);
        test("2<2", false);
        test("2<=2", true);
        test("3<=2", false);
        test("2=2", true);
        test("2=1", false);
        test("1=2", false);
        test("2>=2", true);
        test("1>=2", false);
        test("2>1", true);
        test("2>2", false);
        test("1=1 or 1=1 and 1=2", true);
        test("1=2 and 1=1 or 1=1", true);
        test("[1=1 or 1=1] and 1=2", false);
        test("1=2 or 1=2 or 1=2 or 1=1", true);
        test("1=2 or 1=1 or 1=2 or 1=2", true);
        test("1=1 or 1=2 or 1=2", true);
        test("1=1 and[1=2]", false);
        test("1=1 and[1=2 or 1=2]", false);
        test("1=1 and[1=2 or 1=2 or 1=1]", true);
        test("1=2 or 1=1 and[1=1 or 1=2]", true);
        test("1=1 and 1=1 and 1=1 and 1=2", false);
        test("not 1=2 and 1=2", false);
        test("not [1=2 and 1=2]", true);
        test("not not 1=1", true);
        test("not 1=1", false);
        test("not not 1=2", false);
        test("not[1=2 or 1=1]", false);
        test("1<2 and 1=1 and 1<=1", true);
        test("2>1 and 1=1 and 1>=1", true);
        test("not 1<2", false);
        test("not 1<=2", false);
        test("not 2>=1", false);
        test("not 2>1", false);
        ruleFault("go 1 if 1=>1", 10, 0);
        ruleFault("go 1 if 1< =1", 11, 0);
        ruleFault("go 1 if 1", 9, 0);
        ruleFault("go 1 if 1 1", 10, 0);
        ruleFault("go 1 if []", 9, 0);
        ruleFault("go 1 if [1=1", 12, 0);
        ruleFault("go 1 if 1=1]", 11, 0);
        ruleFault("go [1]", 3, 0);
    }

    private void sums() {
        s.hold("SUM: TERM { (+ or -) TERM }. TERM: VALUE { (* or /) VALUE }.");
        sum("1+2*2", 5);
        sum("2*2+1", 5);
        sum("9-3-2", 4);
        sum("8/2/2", 2);
        sum("9/2*1", 4);
        sum("5-4+1", 2);
        ruleFault("go +1", 3, 0);
        ruleFault("go 1+", 5, 0);
        ruleFault("go 1*", 5, 0);
        ruleFault("go 1*+1", 5, 0);
    }

    private void numbers() {
        s.hold("VALUE: NUMBER (1 to 5 digits, as far as digits go on) | WORD.");
        sum("5", 5);
        sum("00005", 5);
        sum("99999-99995", 4);
        ruleFault("go 000005", 3, 1);
        ruleFault("go 100000", 3, 1);
        ruleFault("go 1 2", 5, 0);
        house("rooms 00002", 0);
        houseFault("rooms 000002", 6, 1);
    }

    private void words() {
        s.hold("WORDS (small letters, as far as these go on) of a HEAD: head, halves, at (its ROOM), home (its first ROOM),");
        ruleFault("goat", 0, 0);
        ruleFault("go atat", 3, 0);
        ruleFault("go a", 3, 0);
        ruleFault("go At", 3, 0);
        ruleFault("go at2", 5, 0);
        ruleFault("goz 1", 0, 0);
        ruleFault("goa 1", 0, 0);
        ruleFault("go rooms", 3, 0);
        rule("go at");
        rule("go at+home");
        HeadCounts x = Check.in("rooms 6;door 2 4;head 0 1;head 2 3");
        x.go(1, 4, false);
        Check.rule(x, "go 2 if head = 1 and halves = 3 and at = 4 and home = 2");
        s.due("all four of HEAD 1", x.would(0, 1), 2);
        s.hold("here (FELT of its ROOM),");
        HeadCounts y = Check.in("rooms 3;door 0 1;door 0 2;head 0 2;head 1 3;delay 0 2");
        y.go(1, 0, false);
        Check.rule(y, "go 1 if here = 2;go 2 if here = 5");
        s.due("not COUNT", y.would(0, 0), 1);
        y.rest();
        y.rest();
        s.due("but FELT", y.would(0, 0), 2);
        s.hold("gone (how often it went), minute.");
        Check.rule(y, "go 2 if gone = 0 and minute = 3;go 1 if gone = 1 and minute = 3");
        s.due("HEAD 0 never went", y.would(1, 0), 2);
        s.due("HEAD 1 went once", y.would(1, 1), 1);
    }

    private void cameFrom() {
        s.hold("came (the ROOM it came from last; 99 none),");
        HeadCounts x = Check.in("rooms 3;door 0 1;door 1 2;head 0 1");
        Check.rule(x, "go 1 if came = 99;go came");
        s.due("none yet", x.would(0, 0), 1);
        x.go(0, 1, false);
        s.due("from 0", x.would(0, 0), 0);
        x.go(0, 2, true);
        s.due("from 1", x.would(0, 0), 1);
        x.go(0, 1, false);
        s.due("from 2", x.would(0, 0), 2);
    }

    private void fewAndCrowd() {
        s.hold("few (the ROOM with least FELT of those to which it could go; of several the least; 99 none), crowd (that with "
            + "most, likewise), least (FELT of few; 0 without), greatest (FELT of crowd; 0 without),");
        String house = "rooms 6;door 0 5;door 0 4;door 0 3;door 0 2;head 0 1;head 2 2;head 3 1;head 4 2;head 5 1";
        would(house, "go few", 3);
        would(house, "go crowd", 2);
        would(house, "go 5 if least = 1 and greatest = 2", 5);
        would(house + ";most 3 1", "go few", 5);
        would(house + ";most 2 2", "go crowd", 4);
        would("rooms 3;door 0 1;door 0 2;head 0 1;head 1 1;most 1 1", "go 2 if few = 2 and crowd = 2", 2);
        HeadCounts x = Check.in("rooms 3;door 0 1;door 0 2;door 1 2;head 0 1;head 2 2;delay 2 1");
        Check.rule(x, "go few");
        Check.rule(x, "go crowd");
        x.go(1, 1, false);
        s.due("least FELT, not COUNT", x.would(0, 0), 1);
        s.due("most FELT, of several the least", x.would(1, 0), 1);
        x.rest();
        s.due("least FELT later", x.would(0, 0), 2);
        noneToGoTo();
    }

    /** What the words say then can't be seen: whatever it is, the head goes nowhere. */
    private void noneToGoTo() {
        would("rooms 2;head 0 1;head 1 1", "go few", -2);
        would("rooms 2;head 0 1;head 1 1", "go crowd", -2);
        would("rooms 2;head 0 1;head 1 1", "go 1 if few = 99 and crowd = 99 and least = 0 and greatest = 0", -2);
        would("rooms 2;door 0 1;head 0 1;head 1 1;most 1 1", "go few-98", -2);
        would("rooms 2;door 0 1;head 0 1;head 1 1;most 1 2", "go few", 1);
    }

    private void rounding() {
        s.hold("/ is towards 0, 0 by 0; all goes round in 64 bits.");
        sum("7/4", 1);
        sum("8/4", 2);
        test(LEAST + "/3*3-" + LEAST + "=2", true);
        sum("5/0+1", 1);
        sum("0/0+1", 1);
        sum("1+5/0*3", 1);
        test(LEAST + "<0", true);
        test(LEAST + "-1>0", true);
        test(LEAST + "+" + LEAST + "=0", true);
        test("65536*65536*65536*65536=0", true);
        sum("65536*65536*65536*65536+1", 1);
        sum("65536*65536+1", -2);
        sum("65536*65536*65536+1", -2);
        test(LEAST + "-1+" + LEAST + "-1=0-2", true);
    }

    private void blanks() {
        s.hold("Blanks (32) stand between as one likes.");
        house("rooms2;door0 1;head0 1;sense3;linger0;delay1 5;most1 9", 1);
        house("   rooms   2   ;   head   0   1   ", 1);
        rule("go1if1=1and not[at<2or at>3]");
        rule("  go  1  if  1  =  1  and  not  [  at  <=  2  ]  ;  go  few  ");
        houseFault("rooms\t2", 5, 0);
        houseFault("rooms 2\n", 7, 0);
        houseFault("ro oms 2", 0, 0);
        houseFault("rooms 2;linger 1 0", 17, 0);
        ruleFault("go 1 if 1 < = 1", 12, 0);
        ruleFault("go 1 if 1=1 andat=1", 12, 0);
    }

    private void depth() {
        s.hold("[ and not lie within one another 10 deep at most;");
        rule("go 1 if " + "[".repeat(10) + "1=1" + "]".repeat(10));
        ruleFault("go 1 if " + "[".repeat(11) + "1=1" + "]".repeat(11), 18, 2);
        rule("go 1 if " + "not ".repeat(10) + "1=1");
        ruleFault("go 1 if " + "not ".repeat(11) + "1=1", 48, 2);
        rule("go 1 if " + "not[".repeat(5) + "1=1" + "]".repeat(5));
        ruleFault("go 1 if " + "not[".repeat(5) + "not 1=1" + "]".repeat(5), 28, 2);
        rule("go 1 if " + "[".repeat(10) + "1=1" + "]".repeat(10) + "or " + "not ".repeat(10) + "1=1");
        rule("go 1 if " + "[".repeat(9) + "not 1=1 and[1=1]or not 1=1" + "]".repeat(9));
        would(STAR, "go 1 if " + "not[".repeat(5) + "1=2" + "]".repeat(5), 1);
    }

    private void sixty() {
        s.hold("at most 60 VALUES (of SUMS) and FACTS made of a SIGN, together.");
        rule("go 1" + "+1".repeat(59));
        ruleFault("go 1" + "+1".repeat(60), 123, 3);
        rule("go 1" + "+1".repeat(56) + " if 1=1");
        ruleFault("go 1" + "+1".repeat(57) + " if 1=1", 124, 3);
        rule("go 1+1+1 if 1=1" + " and 1=1".repeat(18));
        ruleFault("go 1+1+1+1 if 1=1" + " and 1=1".repeat(18), 160, 3);
        rule("go 1;go 1 if[not 1=1];go 1" + "+1".repeat(54));
        ruleFault("go 1;go 1 if[not 1=1];go 1" + "+1".repeat(55), 135, 3);
        would(STAR, "go 1" + "+0".repeat(59), 1);
        HeadCounts x = Check.in(STAR);
        for (int i = 0; i < 6; i++) {
            s.due("sixty in each", Check.rule(x, "go " + i + "+0".repeat(59)), i);
            s.due("and a FAULT between", Check.rule(x, "go 1" + "+0".repeat(60)), i == 5 ? -1 : Check.fault(123, 3));
        }
        s.due("the last of six", x.would(5, 0), 5);
    }

    private void faults() {
        s.hold("FAULTS, the first along the text, 1 + 8 * its place and:");
        s.due("place 0", Check.house(new HeadCounts(), ""), -2 - 1);
        s.due("place 1", Check.house(new HeadCounts(), " x"), -2 - 9);
        s.due("place 400", Check.house(new HeadCounts(), filled("rooms", 400)), -2 - 3201);
        houseFault("rooms 9;rooms 2;nothing", 6, 1);
        houseFault("rooms 2;nothing;rooms 9", 8, 0);
        houseFault("rooms 2;rooms 9", 8, 4);
        houseFault("rooms 2;head 2 5", 13, 1);
        ruleFault("go 123456;go " + "1+".repeat(60), 3, 1);
        s.hold("0 a byte or WORD that can't stand there, or the end (behind the last byte);");
        houseFault("rooms 2;go 1", 8, 0);
        houseFault("rooms 2;room 1", 8, 0);
        houseFault("rooms 2;\u00ff", 8, 0);
        houseFault("rooms 2;\0", 8, 0);
        houseFault("rooms 2;2", 8, 0);
        houseFault("rooms two", 6, 0);
        houseFault("rooms", 5, 0);
        houseFault("rooms  ", 7, 0);
        ruleFault("go", 2, 0);
        ruleFault("go linger", 3, 0);
        ruleFault("go not 1=1", 3, 0);
        ruleFault("rooms 2", 0, 0);
        s.hold("1 a NUMBER of more digits, or not as told (a DOOR's second ROOM, if it is the first or they have one);");
        houseFault("rooms 123456", 6, 1);
        houseFault("rooms 2;most 0 000001", 15, 1);
        houseFault("rooms 2;most 0 99999", 15, 1);
        houseFault("rooms 3;door 2 2", 15, 1);
        houseFault("rooms 3;door 2 1;door  1  2", 26, 1);
        ruleFault("go 1 if 1 = 999999", 12, 1);
        rule("go 1 if 1 = 99999");
        moreFaults();
    }

    private void moreFaults() {
        s.hold("2 too deep (at the sign that opens, or the word not);");
        ruleFault("go 1 if " + "[ ".repeat(10) + " [", 29, 2);
        ruleFault("go 1 if " + "[ ".repeat(10) + " not", 29, 2);
        s.hold("3 one VALUE or FACT too many (at its first byte; of a FACT at its SIGN);");
        ruleFault("go 1" + "+1".repeat(59) + "+ halves", 124, 3);
        ruleFault("go 1" + "+1".repeat(58) + " if 1 >= 1", 126, 3);
        ruleFault("go 1" + "+1".repeat(57) + " if 1 >= 12", 127, 3);
        s.hold("4 one CLAUSE too many, a second rooms or linger, another CLAUSE ahead of rooms, an 11th DOOR, a seventh HEAD or "
            + "SENSE (at its first byte).");
        houseFault("rooms 2" + ";most0 1".repeat(39) + ";  sense 3", 322, 4);
        ruleFault("go 1;".repeat(12) + "  go x", 62, 4);
        houseFault("rooms 2; rooms 9", 9, 4);
        houseFault("rooms 2;linger 1; linger 99", 18, 4);
        houseFault(" door 0 1", 1, 4);
        houseFault(" linger 10", 1, 4);
        houseFault("rooms 6;door 0 1;door 0 2;door 0 3;door 0 4;door 0 5;door 1 2;door 1 3;door 1 4;door 1 5;door 2 3; door 9 9",
            99, 4);
        houseFault("rooms 2;" + "head 0 1;".repeat(6) + " head 9 9", 63, 4);
        houseFault("rooms 2;" + "sense 1;".repeat(6) + " sense 0", 57, 4);
        s.hold("Of one place the least.");
        houseFault("rooms 2" + ";most0 1".repeat(39) + ";nothing", 320, 0);
        houseFault("rooms 2" + ";most0 1".repeat(39) + ";", 320, 0);
        houseFault("nothing 1;rooms 2", 0, 0);
        ruleFault("go 1;".repeat(12) + "if", 60, 0);
        ruleFault("go 1" + "+1".repeat(59) + "+123456", 123, 1);
        ruleFault("go 1" + "+1".repeat(59) + "+if", 123, 0);
        ruleFault("go 1" + "+1".repeat(58) + " if 1 ; 1", 126, 0);
    }
}
