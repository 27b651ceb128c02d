/** Promise 5: texts, their values and their faults. */
public final class TextTest {
    private static final Due due = new Due();

    public static void main(String[] args) {
        due.promise(5, "text");
        faults();
        faultsOfMany();
        faultsOfDepth();
        fit();
        values();
        names();
        full();
        due.end();
    }

    private static void fault(String text, int place) {
        JudgesByLoss x = new JudgesByLoss();
        due.is('"' + text + '"', Due.read(x, text), -100 - place);
        due.is("the tape behind it", x.count(5), 0);
        due.is("texts behind it", x.count(3), 1);
    }

    private static void faults() {
        fault("", 0);
        fault("  \n ", 4);
        fault("a", 0);
        fault("takes 1;", 0);
        fault("needs", 5);
        fault("needs ", 6);
        fault("needs ;", 6);
        fault("needs 1", 7);
        fault("needs 1;judges 1;", 8);
        fault("needs 1;takes 2;judges 3", 24);
        fault("needs 1;takes 2;judges 3  ", 26);
        fault("needs 1;takes 2;judges 3; 4", 26);
        fault("needs 1;takes 2;judges 3;;", 25);
        fault("needs 1;takes 2;judges 3;$", 25);
        fault("needs 1;takes 2;judges 3; x", 26);
        fault("needs 12345;", 6);
        fault("needs 00001;", 6);
        fault("needs 1 2;", 8);
        fault("needs 1mind;", 7);
        fault("needs needs;", 6);
        fault("needs or;", 6);
        fault("needs minds;", 6);
        fault("needs min;", 6);
        fault("needs Mind;", 6);
        fault("needsmind;", 0);
        fault("needs notmind;", 6);
        fault("needs hardz;", 6);
        fault("needs zhard;", 6);
        fault("needs hard{;", 10);
        fault("needs hard`;", 10);
        fault("needs 1/;", 7);
        fault("needs 1:;", 7);
        fault("xeeds 1;", 0);
        fault("needs xard;", 6);
        fault("needs hare;", 6);
        fault("needs\t1;", 5);
        fault("needs\r1;", 5);
        fault("needs 1\0;", 7);
        fault("needs 1\u00ff;", 7);
        fault("needs 1>2;", 7);
        fault("needs 1<2<3;", 9);
        fault("needs 1 = 2 < 3;", 12);
        fault("needs 1==2;", 8);
        fault("needs 1<not 2;", 8);
        fault("needs 1+not 2;", 8);
        fault("needs -not 2;", 7);
        fault("needs +1;", 6);
        fault("needs 1++1;", 8);
        fault("needs 1**1;", 8);
        fault("needs 1 and or 1;", 12);
        fault("needs 1 or;", 10);
        fault("needs 1 not 1;", 8);
        fault("needs ();", 7);
        fault("needs (1;", 8);
        fault("needs 1);", 7);
        fault("needs (1 2);", 9);
        fault("needs 1 $ 12345;", 8);
    }

    private static void faultsOfMany() {
        StringBuilder signs = new StringBuilder();
        for (int i = 0; i < 160; i++) {
            signs.append(';');
        }
        fault(signs.toString(), 0);
        StringBuilder sum = new StringBuilder("needs 1");
        while (sum.length() < 159) {
            sum.append("+1");
        }
        JudgesByLoss x = new JudgesByLoss();
        x.judge(0, 0, 0);
        x.file(1, 0);
        for (int i = 0; i < 2; i++) {
            due.is("a sum that does not end", Due.read(x, sum.toString()), -259);
        }
        due.is("a text behind them", Due.read(x, "needs 1+2;takes 3*4;judges 5-6;"), 1);
        x.force(1);
        due.is("its needs", x.asks(0, 0, 0), 3);
        due.is("its takes", x.asks(1, 0, 0), 12);
        due.is("its judges", x.asks(2, 0, 0), -1);
    }

    private static void faultsOfDepth() {
        fault("needs ((((((1))))));", 11);
        fault("needs ------1;", 11);
        fault("needs 1-------1;", 13);
        fault("needs not not not not not not 1;", 26);
        fault("needs not not(-(-1;", 16);
        fault("needs not not(-((1;", 16);
        fault("needs (((((not 1;", 11);
        fault("needs not 1 < -----1;", 18);
        fault("needs not 1 + 1 * -----1;", 22);
        fault("needs (1 or not 1 and ((((1;", 27);
        fault("needs (1 or not 1 and (((((1;", 26);
        fault("needs -(-(-1*(-1;", 14);
    }

    private static void fits(String expression) {
        JudgesByLoss x = new JudgesByLoss();
        due.is('"' + expression + '"', Due.read(x, "needs " + expression + ";takes 1;judges 1;"), 1);
        due.is("the tape behind it", x.count(5), 0);
    }

    private static void fit() {
        fits("(((((1)))))");
        fits("-----1");
        fits("1------1");
        fits("not not not not not 1");
        fits("not not(-(1))");
        fits("-1*-----1");
        fits("(1)+(1)+(1)+(1)+(1)+(1)+(((((1)))))");
        fits("not 1 and not 1 and not 1 and not 1 and not 1 and not not not not not 1");
        fits("not(1) or -1<-----1");
        fits("0000");
        JudgesByLoss x = new JudgesByLoss();
        due.is("blanks", Due.read(x, "\n needs\n1 ; takes 1;judges(1);\n "), 1);
        due.is("none", Due.read(x, "needs(1);takes 1;judges-1;"), 2);
        StringBuilder long160 = new StringBuilder("needs 1");
        while (long160.length() < 141) {
            long160.append("+1");
        }
        due.is("159 bytes", Due.read(x, long160 + ";takes 1;judges 1;"), 3);
        due.is("160 bytes", Due.read(x, " " + long160 + ";takes 1;judges 1;"), 4);
    }

    private static void value(String expression, int want) {
        JudgesByLoss x = new JudgesByLoss();
        x.judge(3, 37, 60);
        x.file(33, 50);
        x.dawn(7);
        due.is("reading " + expression, Due.read(x, "needs 0;takes 0;judges " + expression + ";"), 1);
        x.force(1);
        due.is(expression, x.asks(2, 0, 0), want);
    }

    private static void values() {
        value("2+3*4", 14);
        value("(2+3)*4", 20);
        value("9-4-3", 2);
        value("2*-3+10", 4);
        value("-2+5", 3);
        value("-(2+5)", -7);
        value("--5", 5);
        value("5 or 0", 1);
        value("0 or 0", 0);
        value("1 or 0 and 0", 1);
        value("(1 or 0) and 0", 0);
        value("2 and 4", 1);
        value("2 and 0", 0);
        value("1 and 1", 1);
        value("0 and 1", 0);
        value("0 or 1", 1);
        value("(((1+2)*(3+4)-5)*2+(6-(7-8)))", 39);
        value("0 or 1 and 2<3+4*(0 or 1 and 2<3+4*(5-1))", 1);
        value("-1 and -2", 1);
        value("not 5", 0);
        value("not 0", 1);
        value("not not 7", 1);
        value("not 1<0", 1);
        value("not 0 and 0", 0);
        value("1<2", 1);
        value("2<2", 0);
        value("3<2", 0);
        value("-1<0", 1);
        value("2=2", 1);
        value("2=3", 0);
        value("1+1=2", 1);
        value("7", 7);
        value("0099", 99);
        value("(1<2)*5+(2<1)*7", 5);
        value("9999", 99);
        value("-9999", -99);
        value("9999*9999*9999", -99);
        value("9999*9999*9999*9999<0", 0);
        value("(4096*4096*128<0)*3", 3);
        value("4096*4096*256", 0);
    }

    private static void names() {
        value("hard", 50);
        value("things", 2);
        value("mind", 60);
        value("lost", 3);
        value("day", 7);
        value("more", 3);
        JudgesByLoss x = new JudgesByLoss();
        x.judge(3, 37, 60);
        x.file(33, 50);
        Due.read(x, "needs hard+things;takes mind-lost;judges more*day;");
        x.force(1);
        due.is("needs", x.asks(0, 0, 0), 52);
        due.is("takes", x.asks(1, 0, 0), 57);
        due.is("judges", x.asks(2, 0, 0), 0);
        x.dawn(7);
        due.is("judges on day 7", x.asks(2, 0, 0), 21);
        x.put(0, 0, 1023);
        due.is("takes of ten lost", x.asks(1, 0, 0), 50);
        x.put(0, 1, 10);
        due.is("takes of mind 10", x.asks(1, 0, 0), 0);
    }

    private static void full() {
        JudgesByLoss x = new JudgesByLoss();
        for (int t = 1; t < 6; t++) {
            due.is("text " + t, Due.read(x, "needs " + t + ";takes 0;judges 0;"), t);
        }
        due.is("the seventh", Due.read(x, "needs 9;takes 0;judges 0;"), -4);
        due.is("the tape stays", x.count(5), 25);
        due.is("by FULL ahead of a FAULT", Due.read(x, "needs"), -4);
        due.is("texts", x.count(3), 6);
        x.judge(0, 0, 0);
        x.file(1, 0);
        for (int t = 1; t < 6; t++) {
            x.force(t);
            due.is("needs of text " + t, x.asks(0, 0, 0), t);
        }
        JudgesByLoss y = new JudgesByLoss();
        due.is("a FAULT", Due.read(y, "needs 1;x"), -108);
        due.is("a text behind it", Due.read(y, "needs 1;takes 2;judges 3;"), 1);
    }
}
