/** Promise 5: the first fault of a text and its place. A ^ marks the place in the texts below. */
public final class FaultTest {
    public static void main(String[] args) {
        latest();
        noToken();
        misplaced();
        theEnd();
        tooMany();
        tooDeep();
        tooManyLeaves();
        toldAlready();
        meansNothing();
        cannotBe();
        firstAndLeast();
        Due.close();
    }

    private static void latest() {
        ExamTour office = new ExamTour();
        Due.read(office, 0, "grade 1{list a=b;must c;}");
        Due.is("fault", office.fault(0), 4);
        Due.is("place", office.fault(1), 22);
        Due.feed(office, "grade 1{}");
        office.syllabus(4);
        Due.is("-2 tells no fault", office.fault(0), 4);
        Due.is("-2 tells no place", office.fault(1), 22);
        for (int what : new int[] {Integer.MIN_VALUE, -1, 2, 3, 10, Integer.MAX_VALUE}) {
            Due.is("fault(" + what + ")", office.fault(what), -1);
        }
        office.syllabus(3);
        Due.is("a good one", office.fault(0), 0);
        Due.is("its place", office.fault(1), -1);
    }

    private static void noToken() {
        Due.bad("^A", 1);
        Due.bad("grade 1{^\t}", 1);
        Due.bad("grade 1{^\r\n}", 1);
        Due.bad("grade ^_1{}", 1);
        Due.bad("grade 1{}^\0", 1);
        Due.bad("^\u00e1", 1);
        Due.bad("^\u0080", 1);
        for (String sign : "! \" # $ % & ' * . / : ? @ [ \\ ] _ ` | ~ \u007f".split(" ")) {
            Due.bad("grade 1{must 1^" + sign + "1;}", 1);
        }
        // A word of nine, and a number of seven, is none.
        Due.bad("grade 1{list ^abcdefghi=a;}", 1);
        Due.bad("grade 1{list a=^a23456789;}", 1);
        Due.bad("grade ^0000001{}", 1);
        Due.bad("grade 1{must ^1234567;}", 1);
        Due.bad("^gradegrade 1{}", 1);
        // No letter directly behind a number.
        Due.bad("grade ^1a{}", 1);
        Due.bad("grade 1{must ^1or 1;}", 1);
        Due.bad("grade 1{part p ^9z;}", 1);
        Due.bad("grade 1{must 1^A;}", 1);
    }

    private static void misplaced() {
        Due.bad("^{", 2);
        Due.bad("^1", 2);
        Due.bad("^list", 2);
        Due.bad("^grades 1{}", 2);
        Due.bad("grade ^{}", 2);
        Due.bad("grade ^one{}", 2);
        Due.bad("grade 1^}", 2);
        Due.bad("grade 1 ^1{}", 2);
        Due.bad("grade 1{^{", 2);
        Due.bad("grade 1{^;}", 2);
        Due.bad("grade 1{^grade 2{}}", 2);
        Due.bad("grade 1{^own;}", 2);
        Due.bad("grade 1{^name;}", 2);
        Due.bad("grade 1{^or;}", 2);
        Due.bad("grade 1{}^}", 2);
        Due.bad("grade 1{}^list a=b;", 2);
        Due.bad("grade 1{list ^=b;}", 2);
        Due.bad("grade 1{list ^1=b;}", 2);
        Due.bad("grade 1{list a^b;}".replace("a^b", "a ^b"), 2);
        Due.bad("grade 1{list a=^;}", 2);
        Due.bad("grade 1{list a=b^}", 2);
        Due.bad("grade 1{list a=b ^c;}", 2);
        Due.bad("grade 1{list a=b,^;}", 2);
        Due.bad("grade 1{list a=b,^,c;}", 2);
        Due.bad("grade 1{list a=^1;}", 2);
        Due.bad("grade 1{part p^;}", 2);
        Due.bad("grade 1{part ^1 p;}", 2);
        Due.bad("grade 1{part p 1^,}", 2);
        Due.bad("grade 1{part p ^q;}", 2);
        Due.bad("grade 1{minutes ^;}", 2);
        Due.bad("grade 1{minutes 1^}", 2);
        Due.bad("grade 1{minutes ^ten;}", 2);
        for (String kept : ("grade list part minutes must pass merit or and not own pieces age total"
            + " least").split(" ")) {
            Due.bad("grade 1{list ^" + kept + "=a;}", 2);
            Due.bad("grade 1{list a=^" + kept + ";}", 2);
            Due.bad("grade 1{list a=b,^" + kept + ";}", 2);
            Due.bad("grade 1{part ^" + kept + " 1;}", 2);
        }
        misplacedInRules();
    }

    private static void misplacedInRules() {
        for (String kind : new String[] {"must", "pass", "merit"}) {
            String head = "grade 1{" + kind + " ";
            for (String kept : "grade list part minutes must pass merit or and".split(" ")) {
                Due.bad(head + "^" + kept + ";}", 2);
                Due.bad(head + "1+^" + kept + ";}", 2);
            }
            Due.bad(head + "^;}", 2);
            Due.bad(head + "1 ^2;}", 2);
            Due.bad(head + "1 ^x;}", 2);
            Due.bad(head + "1+^;}", 2);
            Due.bad(head + "^-1;}", 2);
            Due.bad(head + "^+1;}", 2);
            Due.bad(head + "1+^+1;}", 2);
            Due.bad(head + "1<2^<3;}", 2);
            Due.bad(head + "1=2^>3;}", 2);
            Due.bad(head + "1<^=2;}", 2);
            Due.bad(head + "1 or ^;}", 2);
            Due.bad(head + "1 and ^or 1;}", 2);
            Due.bad(head + "1+^not 1;}", 2);
            Due.bad(head + "1<^not 1;}", 2);
            Due.bad(head + "1 ^not 1;}", 2);
            Due.bad(head + "not ^;}", 2);
            Due.bad(head + "(1^;}", 2);
            Due.bad(head + "(^);}", 2);
            Due.bad(head + "1^);}", 2);
            Due.bad(head + "(1)^(1);}", 2);
            Due.bad(head + "1^,1;}", 2);
            Due.bad(head + "1^}", 2);
        }
    }

    private static void theEnd() {
        Due.bad("grade^", 2);
        Due.bad("grade  \n^", 2);
        Due.bad("grade 1^", 2);
        Due.bad("grade 1{^", 2);
        Due.bad("grade 1{ ^", 2);
        Due.bad("grade 1{list^", 2);
        Due.bad("grade 1{list a^", 2);
        Due.bad("grade 1{list a=^", 2);
        Due.bad("grade 1{list a=b^", 2);
        Due.bad("grade 1{list a=b,^", 2);
        Due.bad("grade 1{list a=b;^", 2);
        Due.bad("grade 1{part^", 2);
        Due.bad("grade 1{part p^", 2);
        Due.bad("grade 1{part p 1^", 2);
        Due.bad("grade 1{minutes^", 2);
        Due.bad("grade 1{must^", 2);
        Due.bad("grade 1{must 1^", 2);
        Due.bad("grade 1{must 1+^", 2);
        Due.bad("grade 1{must not^", 2);
        Due.bad("grade 1{must (^", 2);
        Due.bad("grade 1{must (1^", 2);
        Due.bad("grade 1{must 1;^", 2);
    }

    private static void tooMany() {
        StringBuilder lists = new StringBuilder("grade 1{");
        StringBuilder parts = new StringBuilder("grade 1{");
        for (int i = 0; i < 6; i++) {
            lists.append("list l").append(i).append("=a;");
            parts.append("part p").append(i).append(" 1;");
        }
        Due.bad(lists + "^list l6=a;}", 2);
        Due.bad(lists + "^list", 2);
        Due.bad(parts + "^part p6 1;}", 2);
        Due.bad("grade 1{" + Due.times(8, "must 1;") + "^must 1;}", 2);
        Due.bad("grade 1{minutes 1;^minutes 1;}", 2);
        Due.bad("grade 1{minutes 10;must 1;^minutes x;}", 2);
        Due.bad("grade 1{pass 1;merit 1;^pass 1;}", 2);
        Due.bad("grade 1{merit 1;pass 1;^merit 1;}", 2);
        String twelve = "grade 1{list a=a,b,c,d,e,f,g,h,i,j,k,l";
        Due.bad(twelve + ",^m;}", 2);
        Due.bad(twelve + ",^a;}", 2);
        Due.bad(twelve + ",^M;}", 1);
        Due.bad(twelve + ",^;}", 2);
        // Each grade counts for itself.
        Due.good(lists + "}grade 2{list a=a;minutes 3;pass 1;merit 1;must 1;part q 1;}", 2);
    }

    private static void tooDeep() {
        Due.bad("grade 1{must " + Due.times(8, "(") + "^1" + Due.times(8, ")") + ";}", 2);
        Due.bad("grade 1{must " + Due.times(8, "( ") + "^(1" + Due.times(9, ")") + ";}", 2);
        Due.bad("grade 1{must " + Due.times(8, "not ") + "^1;}", 2);
        Due.bad("grade 1{must " + Due.times(8, "not ") + "^not 1;}", 2);
        Due.bad("grade 1{pass " + Due.times(4, "not (") + "^1" + Due.times(4, ")") + ";}", 2);
        Due.bad("grade 1{pass " + Due.times(4, "(not ") + "^1" + Due.times(4, ")") + ";}", 2);
        Due.bad("grade 1{merit 1+" + Due.times(7, "(") + "not ^1" + Due.times(7, ")") + ";}", 2);
        Due.bad("grade 1{merit 1+" + Due.times(8, "(") + "^nothing" + Due.times(8, ")") + ";}", 2);
        Due.bad("grade 1{merit 1+" + Due.times(8, "(") + "^?" + Due.times(8, ")") + ";}", 1);
        Due.bad("grade 1{merit 1+" + Due.times(8, "(") + "^", 2);
        Due.bad("grade 1{must " + Due.times(7, "(") + "1" + Due.times(6, ")") + "^;}", 2);
        Due.bad("grade 1{must " + Due.times(8, "(") + "^" + Due.times(8, ")") + ";}", 2);
        Due.bad("grade 1{must " + Due.times(8, "not ") + "^;}", 2);
    }

    private static void tooManyLeaves() {
        String most = "grade 1{must 1" + Due.times(149, "+1");
        Due.bad(most + "+^1;}", 2);
        Due.bad(most + "+^x;}", 2);
        Due.bad(most + "+^total;}", 2);
        Due.bad(most + "+^X;}", 1);
        Due.bad(most + ";pass ^1;}", 2);
        Due.bad(most + ";}grade 2{merit ^1;}", 2);
        Due.bad(most + "+(^1);}", 2);
        Due.bad("grade 1{list a=b;part c 5;must a+own+age+pieces" + Due.times(138, "+1")
            + ";pass c+total+least;merit 1+c+2+c+4+^c;}", 2);
        // Numbers and names that stand in no e do not count.
        Due.good("grade 1{list a=b,c,d;part e 5;minutes 5;must 1" + Due.times(149, "+1") + ";}", 1);
    }

    private static void toldAlready() {
        Due.bad("grade 1{}grade 2{}grade ^1{}", 3);
        Due.bad("grade 3{}grade ^003{}", 3);
        Due.bad("grade 3{}grade ^3", 3);
        Due.bad("grade 1{list a=b;list ^a=c;}", 3);
        Due.bad("grade 1{list a=b;part ^a 1;}", 3);
        Due.bad("grade 1{part a 1;list ^a=b;}", 3);
        Due.bad("grade 1{part a 1;part b 2;part ^a 1;}", 3);
        Due.bad("grade 1{list a=b,^b;}", 3);
        Due.bad("grade 1{list a=b,c,d,^c,b;}", 3);
        Due.bad("grade 1{list a=b;list c=b,^b;}", 3);
        Due.good("grade 1{list a=a;list b=a;part c 1;}grade 2{part a 1;list c=b;}", 2);
    }

    private static void meansNothing() {
        Due.bad("grade 1{must ^a;}", 4);
        Due.bad("grade 1{must ^a;list a=b;}", 4);
        Due.bad("grade 1{list a=b;must a+^b;}", 4);
        Due.bad("grade 1{list a=b;part c 1;must ^c;}", 4);
        Due.bad("grade 1{list a=b;part c 1;pass ^a;}", 4);
        Due.bad("grade 1{list a=b;part c 1;merit 1 or ^a;}", 4);
        Due.bad("grade 1{pass ^c;part c 1;}", 4);
        Due.bad("grade 1{merit (^c);part c 1;}", 4);
        Due.bad("grade 1{list a=b;}grade 2{must ^a;}", 4);
        Due.bad("grade 1{part a 1;}grade 2{pass ^a;}", 4);
        Due.bad("grade 1{must ^total;}", 4);
        Due.bad("grade 1{must ^least;}", 4);
        for (String kind : new String[] {"pass", "merit"}) {
            Due.bad("grade 1{" + kind + " ^own;}", 4);
            Due.bad("grade 1{" + kind + " ^pieces;}", 4);
            Due.bad("grade 1{" + kind + " ^age;}", 4);
        }
        Due.bad("grade 1{must not ^owner;}", 4);
    }

    private static void cannotBe() {
        Due.bad("grade ^0{}", 5);
        Due.bad("grade ^9{}", 5);
        Due.bad("grade ^999999{}", 5);
        Due.bad("grade 1{part p ^0;}", 5);
        Due.bad("grade 1{part p ^201;}", 5);
        Due.bad("grade 1{minutes ^0;}", 5);
        Due.bad("grade 1{minutes ^121;}", 5);
        Due.good("grade 1{must 0;must 999999;pass 201;}", 1);
    }

    private static void firstAndLeast() {
        // The fault of a token counts ahead of those of the next one, of whichever sort they are.
        Due.bad("grade ^9A", 5);
        Due.bad("grade 1{must ^x?;}", 4);
        Due.bad("grade 1{list a=b;list ^a?;}", 3);
        Due.bad("grade 1{list a=b,^b?}", 3);
        Due.bad("grade 1{part a ^0?}", 5);
        Due.bad("grade 1{minutes 1;^minutes?}", 2);
        Due.bad("grade 1{}grade ^1?", 3);
        Due.bad("grade 1{must ^a;must b;} ?", 4);
        Due.bad("grade 1{list a=^own;must b;}", 2);
    }
}
