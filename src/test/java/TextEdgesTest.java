/** Every boundary that the document's SYLLABUS and promises 1 to 6 name, sentence by sentence. */
public final class TextEdgesTest {
    private static final String[] FAR = {"min", "-1000", "1000", "max"};

    public static void main(String[] args) {
        newObject();
        feed();
        end();
        syllabus();
        fault();
        grade();
        textsLength();
        emptyTexts();
        tokens();
        mostOfAGrade();
        leastAndMostNumbers();
        toldOnce();
        wordsOfRules();
        deepRules();
        longRules();
        valuesOfRules();
        largestSums();
        Due.close();
    }

    private static void newObject() {
        new Run("1: no texts, ENTRIES, CENTRES; DAY 0").dueTimes(8, "about(#)", 0, 0)
            .dueTimes(4, "about(1#)", 0, 0).dueTimes(4, "grade(#, 1, 3)", -1, 0).due("judge(0)", -3)
            .due("way(0, 1, 1)", 0).due("examiner(0, 1)", -1).due("session(0, 0)", -1)
            .due("put(0, -1)", 0).due("of(0, 0)", -1).due("may(0, 0)", -1).due("toured(0)", -1)
            .due("stuck()", -1).due("tour()", 0).due("mark(0, 0, 0, 0)", -1).due("appeal(0, 0, 0)", -1)
            .due("untell(0)", 0).due("known(0, 0, 0)", -1).due("main(0, 0)", -1).due("result(0, 0)", -1)
            .due("hardness(0)", -1000).due("certify(0)", -1).due("certificate(1, 0)", -1)
            .due("holds(1, 0)", -1).due("fault(0)", 0).due("fault(1)", -1).due("piece(0, 'a')", -1);
    }

    private static void feed() {
        String blanks = "feed(0x20202020, 0x20202020, 0x20202020, 0x20202020, 0x20202020)";
        new Run("2: more than 1,400: nothing comes").dueTimes(70, blanks, 20, 20)
            .refused(blanks, -1).due("about(7)", 1400).due("syllabus(0)", 0);
        new Run("2: 1,401 would be too many").dueTimes(70, blanks, 20, 20).due("end(1381)", 1381)
            .refused("feed(1, 2, 3, 4, 5)", -1).due("syllabus(0)", 0);
        new Run("2: 1,400 are not too many").dueTimes(70, blanks, 20, 20).due("end(1380)", 1380)
            .due(blanks, 1400).due("syllabus(0)", 0);
        new Run("2: of each number the highest first").due("feed(0x67726164, 0x6520377b, 0x6d696e75, "
            + "0x74657320, 0x38343b7d)", 20).due("syllabus(1)", 1).due("grade(1, 7, 3)", 84);
        for (int i = 0; i < 20; i++) {
            byte[] bytes = "                    ".getBytes(java.nio.charset.StandardCharsets.ISO_8859_1);
            bytes[i] = (byte) 0x80;
            int[] n = Due.five(bytes);
            new Run("2: each byte has its place").due("feed(" + n[0] + ", " + n[1] + ", " + n[2] + ", " + n[3]
                + ", " + n[4] + ")", 20).due("syllabus(0)", -1).due("fault(0)", 1).due("fault(1)", i);
        }
    }

    private static void end() {
        new Run("3: it has not so many: an empty one").refusedEach("end(#)", -1, "1", "20", "1400", "max")
            .due("end(0)", 0);
        new Run("3: it has not so many, or n is below 0").text("grade 1{}").refusedEach("end(#)", -1, "10",
            "20", "-1", "min", "max").due("end(9)", 9).due("syllabus(0)", 1);
        new Run("3: its first n bytes").text("grade 1{}}").due("end(9)", 9).refused("end(10)", -1)
            .due("syllabus(0)", 1);
        new Run("3: 0 bytes").text("?").due("end(0)", 0).due("about(7)", 0).due("syllabus(0)", 0);
    }

    private static void syllabus() {
        new Run("4: no such TERM: the TAPE stays").text("grade 1{minutes 5;}")
            .refusedEach("syllabus(#)", -2, "-1", "4", "min", "max").due("syllabus(0)", 1)
            .due("grade(0, 1, 3)", 5);
        for (int term = 0; term < 4; term++) {
            Run run = new Run("4: TERMS 0 .. 3 have a text each, or none").read(term, "grade 1{}grade 2{}", 2);
            for (int other = 0; other < 4; other++) {
                run.due("about(1" + other + ")", other == term ? 2 : 0);
            }
        }
        new Run("4: a FAULT: the text of the TERM stays, the TAPE is empty then")
            .read(2, "grade 4{minutes 6;part p 7;}", 1).read(2, "grade 4{minutes 7;}grade 5{}?", -1)
            .due("about(7)", 0).due("about(12)", 1).due("grade(2, 4, 3)", 6).due("grade(2, 4, 10)", 7)
            .due("grade(2, 5, 3)", -1);
        new Run("4: a FAULT for a TERM without a text").read(1, "grade", -1).due("about(11)", 0)
            .due("grade(1, 1, 0)", -1);
        new Run("4: the TAPE is empty then").read(0, "grade 1{}", 1).due("about(7)", 0)
            .due("syllabus(0)", 0).due("about(10)", 0).due("grade(0, 1, 3)", -1);
        new Run("4: no more than eight GRADES").read(0, "grade 1{}grade 2{}grade 3{}grade 4{}grade 5{}"
            + "grade 6{}grade 7{}grade 8{}", 8).due("about(10)", 8);
    }

    private static void fault() {
        new Run("5: before any syllabus()").due("fault(0)", 0).due("fault(1)", -1).due("fault(2)", -1);
        new Run("5: before any that was not -2").text("?").due("syllabus(9)", -2).due("fault(0)", 0)
            .due("fault(1)", -1);
        new Run("5: the latest that was not -2").read(0, "grade 1{}?", -1).due("fault(0)", 1)
            .due("fault(1)", 9).due("syllabus(4)", -2).due("fault(0)", 1).due("fault(1)", 9)
            .due("syllabus(3)", 0).due("fault(0)", 0).due("fault(1)", -1);
        new Run("5: NONE for another what").read(0, "?", -1).due("fault(0)", 1).due("fault(1)", 0)
            .refusedEach("fault(#)", -1, "-1", "2", "10", "min", "max");
    }

    private static void grade() {
        Run run = new Run("6: NONE if there is none such").read(1, "grade 2{list a=b;part p 9;part q 8;must 1;}"
            + "grade 8{}", 2).due("grade(1, 2, 0)", 1).due("grade(1, 2, 1)", 2).due("grade(1, 2, 2)", 1)
            .due("grade(1, 2, 3)", 10).due("grade(1, 2, 10)", 9).due("grade(1, 2, 11)", 8)
            .due("grade(1, 8, 0)", 0).due("grade(1, 8, 1)", 0).due("grade(1, 8, 2)", 0)
            .due("grade(1, 8, 3)", 10).due("grade(1, 8, 10)", -1);
        for (String what : new String[] {"-1", "4", "9", "12", "16", "-2147483638", "min", "max"}) {
            run.due("grade(1, 2, " + what + ")", -1);
        }
        for (String grade : new String[] {"-1", "0", "1", "3", "7", "9", "min", "max"}) {
            run.due("grade(1, " + grade + ", 3)", -1);
        }
        for (String term : new String[] {"-1", "0", "2", "3", "4", "min", "max"}) {
            run.due("grade(" + term + ", 2, 3)", -1);
        }
        for (String far : FAR) {
            run.due("grade(" + far + ", " + far + ", " + far + ")", -1);
        }
    }

    private static void textsLength() {
        String head = "grade 1{must 1;";
        String full = head + Due.times(1399 - head.length(), " ") + "}";
        Due.good(full, 1);
        Due.bad(full.substring(0, 1399) + "^?", 1);
        Due.bad(full.substring(0, 1399) + "^1", 2);
        Due.bad(full.substring(0, 1399) + " ^", 2);
        Due.bad(head + Due.times(1393 - head.length(), "\n") + "must 1;^", 2);
        Due.bad(Due.times(1399, " ") + "^x", 2);
        Due.good(Due.times(1400, " "), 0);
    }

    private static void emptyTexts() {
        Due.good("", 0);
        Due.good("\n", 0);
        Due.good("grade 1{}", 1);
        Due.bad("grade 1{list a=^;}", 2);
        Due.bad("grade 1{must ^;}", 2);
        Due.bad("grade 1{must (^);}", 2);
        Due.bad("grade 1{^;}", 2);
        new Run("an empty text is a text").read(3, "", 0).due("about(13)", 0).due("fault(0)", 0)
            .call("entry(0, 3, 1, 0, 9, -1)").due("judge(0)", -2);
    }

    private static void tokens() {
        Due.good("grade 1{list a=a2345678;part z9z9z9z9 1;}", 1);
        Due.bad("grade 1{list a=^a23456789;}", 1);
        Due.bad("grade 1{list a=^abcdefghijklmnopqrst;}", 1);
        Due.good("grade 000001{minutes 000120;part p 000200;must 000000;}", 1);
        Due.bad("grade 1{minutes ^0000120;}", 1);
        Due.bad("grade 1{must ^99999999999999999999;}", 1);
        // Each is as long as can be.
        Due.bad("^grade1{}", 2);
        Due.bad("grade 1{^must1;}", 2);
        Due.bad("grade 1{^minutes5;}", 2);
        Due.bad("grade 1{must ^not1;}", 4);
        Due.bad("grade 1{must 1 ^and1;}", 2);
        Due.bad("grade 1{must ^ownown;}", 4);
        Due.good("grade 1{list nota=b;must nota;must not nota;}", 1);
        // Blanks part them or not.
        Due.good("grade\n1\n{\nlist\na\n=\nb\n,\nc\n;\nmust\n(\na\n)\n<\n2\n;\n}\n", 1);
        Due.good("grade 1{list a=b,c;must(a)<2;must not(a)and(1)or(2)-3>4;}", 1);
        Due.bad("grade 1{must 1 2^;}".replace("1 2^", "1 ^2"), 2);
        // No letter directly behind a number, but other things may stand there.
        Due.bad("grade 1{must ^1a;}", 1);
        Due.bad("grade 1{must ^000000z;}", 1);
        Due.bad("grade 1{part p ^200and;}", 1);
        Due.bad("grade 1{must 1 ^a;}", 2);
        Due.good("grade 1{must 1+2-3<4 and(5)=6;}", 1);
        for (int c = 0; c < 256; c++) {
            boolean known = c >= 'a' && c <= 'z' || c >= '0' && c <= '9' || " \n{}()=,;<>+-".indexOf(c) >= 0;
            if (!known) {
                Due.bad("grade 1{}^" + (char) c, 1);
            } else if (c != ' ' && c != '\n') {
                Due.bad("grade 1{}^" + (char) c, 2);
            }
        }
    }

    private static void mostOfAGrade() {
        Run run = new Run("6 LISTS of 12 PIECES, 6 PARTS, 8 musts").text("grade 8{");
        for (int i = 0; i < 6; i++) {
            run.text("list l" + i + "=a,b,c,d,e,f,g,h,i,j,k,x" + i + ";part p" + i + " " + (i + 1) + ";");
        }
        run.text(Due.times(7, "must 1;") + "must l5=2;}").due("syllabus(0)", 1).due("grade(0, 8, 0)", 6)
            .due("grade(0, 8, 1)", 6).due("grade(0, 8, 2)", 8);
        for (int i = 0; i < 6; i++) {
            run.due("grade(0, 8, 1" + i + ")", i + 1);
        }
        // The last PIECE of the last LIST, and the last must, count.
        run.call("entry(0, 0, 8, 0, 9, -1)", "piece(0, 'x5')").due("judge(0)", 7).call("piece(0, 'k')")
            .due("judge(0)", -1);
        Due.bad("grade 1{" + Due.times(8, "must 1;") + "^must 1;}", 2);
        Due.good("grade 1{" + Due.times(8, "must 1;") + "}grade 2{" + Due.times(8, "must 1;") + "}", 2);
        Due.bad("grade 1{list a=b,c,d,e,f,g,h,i,j,k,l,m,^n;}", 2);
        Due.good("grade 1{list a=b,c,d,e,f,g,h,i,j,k,l,m;}", 1);
    }

    private static void leastAndMostNumbers() {
        new Run("minutes 1 .. 120; 10 if not told").read(0, "grade 1{minutes 1;}grade 2{minutes 120;}grade 3{}", 3)
            .due("grade(0, 1, 3)", 1).due("grade(0, 2, 3)", 120).due("grade(0, 3, 3)", 10);
        Due.bad("grade 1{minutes ^0;}", 5);
        Due.bad("grade 1{minutes ^121;}", 5);
        new Run("the most marks: 1 .. 200").read(0, "grade 1{part a 1;part b 200;}", 1)
            .due("grade(0, 1, 10)", 1).due("grade(0, 1, 11)", 200);
        Due.bad("grade 1{part a ^0;}", 5);
        Due.bad("grade 1{part a ^201;}", 5);
        Due.bad("grade 1{part a ^999999;}", 5);
        Due.bad("grade ^0{}", 5);
        Due.bad("grade ^9{}", 5);
        new Run("N 1 .. 8").read(0, "grade 8{}grade 1{}", 2).due("grade(0, 1, 0)", 0).due("grade(0, 8, 0)", 0);
    }

    private static void toldOnce() {
        Due.bad("grade 1{}grade ^1{}", 3);
        Due.bad("grade 8{}grade ^000008{}", 3);
        Due.bad("grade 1{minutes 10;^minutes 10;}", 2);
        Due.bad("grade 1{pass 1;^pass 1;}", 2);
        Due.bad("grade 1{merit 1;^merit 1;}", 2);
        Due.good("grade 1{minutes 9;pass 1;merit 1;}grade 2{minutes 9;pass 1;merit 1;}", 2);
        Due.bad("grade 1{list a=b;part ^a 5;}", 3);
        Due.bad("grade 1{part a 5;list ^a=b;}", 3);
        Due.bad("grade 1{list a=b,^b;}", 3);
        // At one place the least: too many of a sort is told by its word, ahead of its name.
        Due.bad("grade 1{list a=a;list b=a;list c=a;list d=a;list e=a;list f=a;^list a=a;}", 2);
        Due.bad("grade 1{part a 1;part b 1;part c 1;part d 1;part e 1;part f 1;^part a 0;}", 2);
    }

    private static void wordsOfRules() {
        Due.bad("grade 1{must ^later;list later=a;}", 4);
        Due.bad("grade 1{pass ^later;part later 5;}", 4);
        Due.bad("grade 1{merit ^later;part later 5;}", 4);
        Due.bad("grade 1{list a=b;}grade 2{must ^a;}", 4);
        new Run("own: in none of the LISTS, also those told behind").read(0, "grade 1{must own=1;list a=b;}"
            + "grade 2{list c=d;}", 2).call("entry(0, 0, 1, 0, 9, -1)").due("judge(0)", 0)
            .call("piece(0, 'b')").due("judge(0)", 0).call("piece(0, 'd')").due("judge(0)", -1);
        new Run("own without LISTS").read(0, "grade 1{must own=pieces;must own=4;}", 1)
            .call("entry(0, 0, 1, 0, 9, -1)").due("judge(0)", 1).dueTimes(4, "piece(0, 'a#')", 1, 1)
            .due("judge(0)", -1);
        new Run("age 4 .. 99").read(0, "grade 1{must age=4 or age=99;}", 1).call("entry(0, 0, 1, 0, 4, -1)",
            "entry(0, 0, 1, 0, 99, -1)", "entry(0, 0, 1, 0, 50, -1)").due("judge(0)", -1).due("judge(1)", -1)
            .due("judge(2)", 0);
        new Run("least: 0 without PARTS, and so is total").read(0, "grade 1{pass least=0 and total=0;merit least;}", 1)
            .call("entry(0, 0, 1, 0, 9, -1)").due("result(0, 0)", 1);
        new Run("total and least: also of PARTS told behind").read(0, "grade 1{part a 9;pass total=12;merit least=3;"
            + "part b 9;}", 1).call("entry(0, 0, 1, 0, 9, -1)", "centre()", "examiner(0, 1)", "mark(0, 0, 0, 9)",
            "mark(0, 0, 1, 3)").due("result(0, 0)", 2);
    }

    private static void deepRules() {
        for (String rule : new String[] {"must", "pass", "merit"}) {
            String head = "grade 1{" + rule + " ";
            for (int nots = 0; nots <= 7; nots++) {
                String open = Due.times(nots, "not ") + Due.times(7 - nots, "(");
                String close = Due.times(7 - nots, ")") + ";}";
                Due.good(head + open + "1" + close, 1);
                Due.bad(head + open + "(^1)" + close, 2);
                Due.bad(head + open + "not ^1" + close, 2);
                Due.bad(head + open + "(^0zz)" + close, 1);
                Due.bad(head + open + "(^zz)" + close, 2);
            }
        }
        // How deep one side is does not count for the other.
        Due.good("grade 1{must " + Due.times(7, "(") + "1" + Due.times(7, ")") + "+" + Due.times(7, "(") + "1"
            + Due.times(7, ")") + "<" + Due.times(7, "(") + "9" + Due.times(7, ")") + ";}", 1);
    }

    private static void longRules() {
        String fifty = "1" + Due.times(49, "+1");
        String most = "grade 1{must " + fifty + ";pass " + fifty + ";}grade 2{merit " + fifty + ";";
        Due.good(most + "}", 2);
        Due.bad(most + "must ^1;}", 2);
        Due.bad(most + "}grade 3{pass ^own;}", 2);
        Due.bad(most + "must not (^x);}", 2);
        Due.bad(most + "must ^1x;}", 1);
        Due.good(most + "list a=b,c;part d 150;minutes 15;}grade 3{}", 3);
        new Run("150 of each text").read(0, most + "}", 2).read(0, most + "}", 2).read(1, most + "must 1;}", -1)
            .read(1, most + "}", 2).due("about(11)", 2);
    }

    private static void valuesOfRules() {
        String[] ones = {"1<2", "2>1", "2=2", "0-1<0", "0>0-1", "0-1=1-2", "not 0", "not not 5", "5 and 0-5", "5 or 0",
            "0 or 0-5", "5 or 5", "1 or 1 and 0", "not 1 or 1", "2 and 2 and 2", "not 1<1"};
        String[] zeros = {"1<1", "2<1", "1>1", "1>2", "1=2", "not 1", "not 5", "not 0-1", "0 and 5", "5 and 0", "0 or 0",
            "0 and 1 or 0", "not 0 and 0", "not 1+0", "1-1", "0"};
        for (String e : ones) {
            new Run("< > = not and or give 1: " + e).read(0, "grade 1{must (" + e + ")=1;must " + e + ";}", 1)
                .call("entry(0, 0, 1, 0, 9, -1)").due("judge(0)", -1);
        }
        for (String e : zeros) {
            new Run("< > = not and or give 0: " + e).read(0, "grade 1{must (" + e + ")=0;must " + e + ";}", 1)
                .call("entry(0, 0, 1, 0, 9, -1)").due("judge(0)", 1);
        }
    }

    /** As large as 150 numbers can make them, sums are still far from where ints wrap. */
    private static void largestSums() {
        String large = "999999" + Due.times(73, "+999999");
        new Run("the largest sums").read(0, "grade 1{must (" + large + ")-(" + large + ")=0;must 0;}", 1)
            .call("entry(0, 0, 1, 0, 9, -1)").due("judge(0)", 1);
        new Run("the largest sum").read(0, "grade 1{must 999999" + Due.times(147, "+999999") + ">0;must 0;}", 1)
            .call("entry(0, 0, 1, 0, 9, -1)").due("judge(0)", 1);
        new Run("the least sum").read(0, "grade 1{must 0" + Due.times(147, "-999999") + "<0;must 0;}", 1)
            .call("entry(0, 0, 1, 0, 9, -1)").due("judge(0)", 1);
    }
}
