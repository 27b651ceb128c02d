/** The boundaries of promise 5, and of what the terms say of A TEXT, its TOKENS, its FAULT and TEXTS. */
public final class EdgesTextTest {
    private static final Due due = new Due();
    private static final String REST = ";takes 1;judges 1;";

    public static void main(String[] args) {
        tapeIsEmptied();
        sixTexts();
        sizes();
        endsTooEarly();
        eachByteAsASign();
        eachByteAtFirst();
        words();
        numbers();
        blanks();
        cannotStand();
        firstFault();
        fiveAreOpen();
        fiveAreClosed();
        ints();
        truth();
        names();
        dayPast999();
        due.end();
    }

    private static void fault(String text, int place) {
        JudgesByLoss x = new JudgesByLoss();
        due.is('"' + text + '"', Due.readByFives(x, text), -100 - place);
    }

    private static void fits(String text) {
        JudgesByLoss x = new JudgesByLoss();
        due.is('"' + text + '"', Due.readByFives(x, text), 1);
    }

    private static String repeated(String part, int times) {
        StringBuilder all = new StringBuilder();
        for (int i = 0; i < times; i++) {
            all.append(part);
        }
        return all.toString();
    }

    // ---- the tape, and how many texts

    private static void tapeIsEmptied() {
        due.promise(5, "\"THE TAPE, which is empty then (by a FAULT, too)\"");
        JudgesByLoss x = new JudgesByLoss();
        due.is("an empty tape is a FAULT at 0", x.text(), -100);
        due.is("a FAULT", Due.read(x, "needs 1;takes 1;judges"), -122);
        due.is("empty then", x.count(5), 0);
        due.is("nothing is left of it", x.text(), -100);
        due.is("a text", Due.read(x, "needs 1" + REST), 1);
        due.is("empty then", x.count(5), 0);
        due.is("nothing is left of it", x.text(), -100);
        due.is("by a FAULT no number is used up", Due.read(x, "needs 2" + REST), 2);
        due.promise(5, "a new text's bytes come from the beginning");
        Due.readByFives(x, repeated("x", 160));
        due.is("behind a full tape", Due.readByFives(x, "needs 3" + REST), 3);
    }

    private static void sixTexts() {
        due.promise(5, "\"TEXTS are numbered from 0 on, 6 at most\"");
        JudgesByLoss x = new JudgesByLoss();
        for (int t = 1; t < 6; t++) {
            due.is("text " + t, Due.readByFives(x, "needs " + t + REST), t);
        }
        due.promise(5, "\"FULL (ahead of the FAULT; then THE TAPE stays)\"");
        due.is("a text", Due.readByFives(x, "needs 9" + REST), -4);
        due.is("stays", x.count(5), 25);
        due.is("again", x.text(), -4);
        due.is("stays", x.count(5), 25);
        due.is("a FAULT", Due.readByFives(x, "x"), -4);
        due.is("stays, too", x.count(5), 26);
        due.is("TEXTS", x.count(3), 6);
        JudgesByLoss y = Scenes.full();
        due.is("a full tape", y.text(), -4);
        due.is("stays", y.count(5), 160);
        JudgesByLoss z = Scenes.full();
        z.image();
        z.back();
        due.is("an image gives none back", z.text(), -4);
        due.promise(5, "FULL of an empty tape");
        JudgesByLoss w = new JudgesByLoss();
        for (int t = 1; t < 6; t++) {
            Due.readByFives(w, "needs " + t + REST);
        }
        due.is("nothing on it", w.text(), -4);
    }

    private static void sizes() {
        due.promise(5, "\"THE TAPE (160 bytes at most)\"");
        String text = "needs 1" + repeated("+1", 67) + ";takes 1;judges 1;";
        fits(text);
        fits(repeated(" ", 160 - text.length()) + text);
        fits(text + repeated("\n", 160 - text.length()));
        due.promise(5, "a FAULT of 160 bytes");
        fault(repeated(" ", 160), 160);
        fault(repeated("\n", 159) + "x", 159);
        fault(repeated("a", 160), 0);
        fault(repeated("1", 160), 0);
        fault(repeated("(", 160), 0);
        fault("needs " + repeated("1", 154), 6);
        fault("needs " + repeated("1+", 77), 160);
        fault("needs " + repeated("1*", 76) + "1", 159);
        fault("needs 1;takes 1;judges 1" + repeated(" ", 136), 160);
        fault("needs 1;takes 1;judges 1;" + repeated(" ", 134) + ";", 159);
    }

    // ---- what ends too early: each beginning of a text

    private static boolean isLetter(char sign) {
        return sign >= 'a' && sign <= 'z';
    }

    private static void endsTooEarly() {
        due.promise(5, "\"the text's size, if it ends too early\"");
        String text = "needs not hard<mind+12 ; takes (things or lost)* 2 ;\njudges - day = more and 0;";
        for (int size = 0; size < text.length(); size++) {
            int place = size;
            if (size > 0 && isLetter(text.charAt(size - 1)) && isLetter(text.charAt(size))) {
                // no beginning of these words is a KEY or a NAME
                while (place > 0 && isLetter(text.charAt(place - 1))) {
                    place--;
                }
            }
            fault(text.substring(0, size), place);
        }
        fits(text);
    }

    // ---- bytes

    private static void eachByteAsASign() {
        due.promise(5, "\"SIGNS ( ) ; + - * < =\", \"a byte that begins none\"");
        for (int v = 0; v < 256; v++) {
            String text = "needs 1 " + (char) v + "2;takes 1;judges 1;";
            switch (v) {
                case '+': case '-': case '*': case '<': case '=':
                    fits(text);
                    break;
                case ' ': case '\n': case ';':
                    fault(text, 9);
                    break;
                default:
                    fault(text, 8);
                    break;
            }
        }
    }

    private static void eachByteAtFirst() {
        due.promise(5, "\"the first byte of the first TOKEN that can't stand there\", at the beginning");
        for (int v = 0; v < 256; v++) {
            fault(String.valueOf((char) v), v == ' ' || v == '\n' ? 1 : 0);
        }
    }

    private static void words() {
        due.promise(5, "\"WORDS (as many letters a .. z as stand there)\"");
        fault("needsmind;", 0);
        fault("needs mindmind;", 6);
        fault("needs notmind;", 6);
        fault("needs mindor 1;", 6);
        fault("needs 1 orhard;", 8);
        fits("needs not1or-1and(mind)" + REST);
        fits("needs 1or 2and 3" + REST);
        fault("needs mindZ;", 10);
        fault("needs Amind;", 6);
        fault("needs mind1;", 10);
        due.promise(5, "\"a WORD that is neither KEY nor NAME\"");
        String[] words = {"a", "z", "need", "needss", "take", "judge", "ors", "an", "nota", "thing", "thingss", "minds",
            "los", "losts", "da", "days", "mor", "mores", "har", "hards", "xor", "if"};
        for (String word : words) {
            fault(word + " 1;", 0);
            fault("needs " + word + ";", 6);
            fault("needs 1 " + word + " 1;", 8);
        }
        due.promise(5, "a WORD of one other letter");
        String[] known = {"needs", "takes", "judges", "or", "and", "not", "hard", "things", "mind", "lost", "day",
            "more"};
        for (String word : known) {
            for (int i = 0; i <= word.length(); i++) {
                String behind = word.substring(Math.min(i + 1, word.length()));
                fault(word.substring(0, i) + "z" + behind + " 1;", 0);
                fault("needs " + word.substring(0, i) + "z" + behind + " 1;", 6);
            }
        }
        due.promise(5, "a KEY where a NAME stands, and the other way");
        String[] keys = {"needs", "takes", "judges", "or", "and"};
        for (String key : keys) {
            fault("needs " + key + ";", 6);
        }
        String[] names = {"hard", "things", "mind", "lost", "day", "more"};
        for (String name : names) {
            fault(name + " 1;", 0);
            fault("needs 1 " + name + ";", 8);
            fault("needs 1;" + name + " 1;", 8);
            fits("needs " + name + REST);
        }
    }

    private static void numbers() {
        due.promise(5, "\"NUMBERS (as many digits as stand there; more than 4 are too long)\"");
        fits("needs 0" + REST);
        fits("needs 9" + REST);
        fits("needs 9999" + REST);
        fits("needs 0000" + REST);
        fault("needs 00000" + REST, 6);
        fault("needs 99999" + REST, 6);
        fault("needs 1+12345" + REST, 8);
        fault("needs 1+123456789" + REST, 8);
        due.promise(5, "a NUMBER that is too long and can't stand, either");
        fault("12345", 0);
        fault("needs 1 12345;", 8);
        due.promise(5, "a NUMBER ends where a letter begins");
        fault("needs 1234a;", 10);
        fits("needs 1234or 1" + REST);
    }

    private static void blanks() {
        due.promise(5, "\"blanks (32, 10) may stand between\"");
        fits("needs 1;takes 1;judges 1;");
        fits("needs(1);takes(1);judges(1);");
        fits(" \n needs \n 1 \n ; \n takes \n 1 \n ; \n judges \n 1 \n ; \n ");
        fits("needs\n1\n;takes\n1\n;judges\n1\n;\n");
        fault("needs\t1;", 5);
        fault("needs\r1;", 5);
        fault("needs\u00a01;", 5);
        fault("needs\0001;", 5);
        due.promise(5, "a blank ends a WORD and a NUMBER");
        fault("nee ds 1;", 0);
        fault("needs 1 2;", 8);
        fault("needs mi nd;", 6);
        fault("needs 12\n34;", 9);
    }

    // ---- what can't stand

    private static void cannotStand() {
        due.promise(5, "\"TEXT: needs E ; takes E ; judges E ;\"");
        fault("takes 1;needs 1;judges 1;", 0);
        fault("needs 1;judges 1;takes 1;", 8);
        fault("needs 1;needs 1;", 8);
        fault("needs 1;takes 1;takes 1;", 16);
        fault("needs ;takes 1;judges 1;", 6);
        fault("needs 1;;takes 1;", 8);
        fault("needs 1 takes 1;", 8);
        fault("needs 1;takes ;", 14);
        fault("needs 1;takes 1;judges ;", 23);
        due.promise(5, "behind the last ; nothing can stand");
        fault("needs 1;takes 1;judges 1;;", 25);
        fault("needs 1;takes 1;judges 1;needs 1;", 25);
        fault("needs 1;takes 1;judges 1;1", 25);
        fault("needs 1;takes 1;judges 1; \n x", 28);
        fault("needs 1;takes 1;judges 1; ?", 26);
        due.promise(5, "\"E: AND { or AND }\", \"AND: NOT { and NOT }\"");
        fault("needs or 1;", 6);
        fault("needs and 1;", 6);
        fault("needs 1 or or 1;", 11);
        fault("needs 1 and and 1;", 12);
        fault("needs 1 and or 1;", 12);
        fits("needs 1 or 1 or 1 and 1 and 1" + REST);
        due.promise(5, "\"NOT: not NOT, or SUM, perhaps < or = and a SUM\"");
        fits("needs not not 1<1" + REST);
        fits("needs 1<1 and 1=1 or 1" + REST);
        fault("needs 1<1<1;", 9);
        fault("needs 1<1=1;", 9);
        fault("needs 1=1=1;", 9);
        fault("needs 1=not 1;", 8);
        fault("needs 1<<1;", 8);
        fault("needs <1;", 6);
        fits("needs (1<1)=(1<1)" + REST);
        due.promise(5, "\"SUM\", \"TERM\", \"ONE\"");
        fault("needs *1;", 6);
        fault("needs 1*;", 8);
        fault("needs 1+*1;", 8);
        fault("needs 1*+1;", 8);
        fault("needs 1*not 1;", 8);
        fault("needs -not 1;", 7);
        fault("needs +1;", 6);
        fault("needs 1+;", 8);
        fault("needs ();", 7);
        fault("needs );", 6);
        fault("needs (1;", 8);
        fault("needs ((1);", 10);
        fault("needs (1));", 9);
        fault("needs 1(1);", 7);
        fault("needs (1)(1);", 9);
        fault("needs (1)1;", 9);
        fits("needs 1--1*-(1)" + REST);
    }

    private static void firstFault() {
        due.promise(5, "\"the first TOKEN\": of several faults the first");
        fault("needs 1 1 $ x 12345", 8);
        fault("needs $ 1 1", 6);
        fault("needs 12345 $", 6);
        fault("needs x $", 6);
        fault("needs 1 $", 8);
        fault("needs ((((((x", 11);
        fault("needs (((((x(", 11);
        fault("needs 1; $", 9);
        fault("x $ 12345", 0);
    }

    // ---- depth

    private static void fiveAreOpen() {
        due.promise(5, "\"a ( .. while 5 of these are open\"");
        fits("needs (((((1)))))" + REST);
        fault("needs ((((((1))))))" + REST, 11);
        due.promise(5, "\"a not .. while 5 of these are open\"");
        fits("needs " + repeated("not ", 5) + "1" + REST);
        fault("needs " + repeated("not ", 6) + "1" + REST, 26);
        due.promise(5, "\"a - ahead of a ONE while 5 of these are open\"");
        fits("needs -----1" + REST);
        fault("needs ------1" + REST, 11);
        due.promise(5, "the three of them, each at the sixth");
        String[] signs = {"(", "not ", "-"};
        String[] ends = {")", "", ""};
        for (int i = 0; i < 3; i++) {
            fault("needs (((((" + signs[i] + "1" + ends[i] + ")))))" + REST, 11);
        }
        fits("needs not not (not (1))" + REST);
        fault("needs " + repeated("not ", 5) + "(1)" + REST, 26);
        fault("needs " + repeated("not ", 5) + "-1" + REST, 26);
        fault("needs -----(1)" + REST, 11);
        fits("needs ----(1)" + REST);
        fits("needs " + repeated("not ", 4) + "(1)" + REST);
        fits("needs " + repeated("not ", 4) + "-1" + REST);
        fits("needs ((((-1))))" + REST);
        fits("needs ((((not 1))))" + REST);
        fault("needs ((((-(1)))))" + REST, 11);
        fault("needs ((((not -1))))" + REST, 14);
        due.promise(5, "a - between two isn't ahead of a ONE");
        fits("needs (((((1-1)))))" + REST);
        fits("needs -----1-1" + REST);
        fits("needs 1-1-1-1-1-1-1" + REST);
        due.promise(5, "no FAULT is of the other parts' signs");
        fits("needs -----1;takes (((((1)))));judges -----1;");
        fault("needs -----1;takes ((((((1", 24);
        fault("needs 1;takes 1;judges ------1;", 28);
    }

    private static void fiveAreClosed() {
        due.promise(5, "\"a ( till its )\"");
        fits("needs (1)+(1)+(1)+(1)+(1)+(1)" + REST);
        fits("needs (((((1)))))*(((((1)))))" + REST);
        fits("needs ((((1))+((1))))" + REST);
        fault("needs (((((1))+((((1", 17);
        fits("needs (((((1))+((1)))))" + REST);
        due.promise(5, "\"not .. till what they belong to ends\"");
        fits("needs not not not not not 1 and not not not not not 1" + REST);
        fits("needs not not not not not 1 or (((((1)))))" + REST);
        fault("needs not not not not not 1<(1)" + REST, 28);
        fault("needs not not not not not 1=-1" + REST, 28);
        fault("needs not not not not not 1+-1" + REST, 28);
        fault("needs not not not not not 1*(1)" + REST, 28);
        fits("needs not not not not 1<(1)" + REST);
        due.promise(5, "\"- till what they belong to ends\"");
        fits("needs -----1*-----1" + REST);
        fits("needs -----1+-----1" + REST);
        fits("needs -----1------1" + REST);
        fits("needs -----1<(((((1)))))" + REST);
        fits("needs -----1*(((((1)))))" + REST);
        fault("needs -----1*((((((1", 18);
        fault("needs -(-----1)" + REST, 11);
        fits("needs -(---1)" + REST);
    }

    // ---- values

    private static int value(String expression, JudgesByLoss x) {
        due.is("reading " + expression, Due.readByFives(x, "needs 0;takes 0;judges " + expression + ";"), 1);
        x.force(1);
        return x.asks(2, 0, 0);
    }

    private static void value(String expression, int want) {
        JudgesByLoss x = new JudgesByLoss();
        x.judge(0, 0, 0);
        x.file(1, 0);
        due.is(expression, value(expression, x), want);
    }

    private static void ints() {
        due.promise(5, "\"An E is an int (32 bits, wrapping)\"");
        value("(4096*4096*128-1+1<0)*7", 7);
        value("(0-4096*4096*128-1<0)*7", 0);
        value("-(4096*4096*128)<0", 1);
        value("-(4096*4096*128)=4096*4096*128", 1);
        value("4096*4096*256=0", 1);
        value("8192*8192*64=0", 1);
        value("4096*4096*257=4096*4096", 1);
        value("(4096*4096*128-1)*2+5", 3);
        value("4096*4096*128<4096*4096*128-1", 1);
        due.promise(5, "left to right, and the deepest");
        value("9-5-3", 1);
        value("(9-(9-(9-(9-(9-1)))))", 8);
        String deep = "0or 1and 2<1+2*(";
        value(repeated(deep, 5) + "1" + repeated(")", 5), 1);
        value(repeated(deep, 5) + "0" + repeated(")", 5), 0);
    }

    private static void truth() {
        due.promise(5, "\"of or, and, not, <, = 1 or 0 (what is not 0 is true)\"");
        String[] all = {"-1", "0", "1", "2", "(4096*4096*128)", "(4096*4096*256)"};
        int[] isTrue = {1, 0, 1, 1, 1, 0};
        for (int i = 0; i < all.length; i++) {
            value("not " + all[i], 1 - isTrue[i]);
            for (int k = 0; k < all.length; k++) {
                value(all[i] + " or " + all[k], isTrue[i] | isTrue[k]);
                value(all[i] + " and " + all[k], isTrue[i] & isTrue[k]);
            }
        }
        value("3<3", 0);
        value("2<3", 1);
        value("3<2", 0);
        value("3=3", 1);
        value("3=2", 0);
        value("(5 and 6)+(5 or 0)+(1<2)+(2=2)+(not 0)", 5);
    }

    private static void name(String name, int kindMore, int own, int minds, int things, int hardness, int want) {
        JudgesByLoss x = new JudgesByLoss();
        x.judge(kindMore, own, minds);
        x.file(things, hardness);
        due.is(name, value(name, x), want);
    }

    private static void names() {
        due.promise(5, "\"NAMES: hard things mind lost day more\", at their least and greatest");
        name("hard", 9, 1, 1, 1, 0, 0);
        name("hard", 9, 1, 1, 1, 99, 99);
        name("things", 9, 0, 0, 512, 0, 1);
        name("things", 9, 0, 0, 1023, 0, 10);
        name("mind", 9, 1, 0, 1, 1, 0);
        name("mind", 9, 1, 99, 1, 1, 99);
        name("lost", 9, 0, 1, 1, 1, 0);
        name("lost", 9, 1023, 1, 1, 1, 10);
        name("lost", 9, 512, 1, 1, 1, 1);
        name("more", 50, 1, 1, 1, 1, 0);
        name("more", 59, 1, 1, 1, 1, 9);
        name("day", 9, 1, 1, 1, 1, 0);
        JudgesByLoss x = new JudgesByLoss();
        x.judge(0, 0, 0);
        x.file(1, 0);
        x.dawn(999);
        due.is("day-990", value("day-990", x), 9);
    }

    private static void dayPast999() {
        due.promise(5, "\"in thought it may pass 999\", the text's day");
        JudgesByLoss x = new JudgesByLoss();
        Due.readByFives(x, "needs 99*(day<1000);takes 1;judges 0;");
        x.force(1);
        x.judge(0, 1, 0);
        x.file(1, 0);
        x.dawn(999);
        due.is("not on day 999", x.run(1, 1), 0);
        due.is("on day 1000", x.run(2, 1), 1);
    }
}
