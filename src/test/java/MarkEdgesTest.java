/** Every boundary that the document's MARKS and promises 20 to 27 name, sentence by sentence. */
public final class MarkEdgesTest {
    public static void main(String[] args) {
        later();
        mark();
        mostMarks();
        appeal();
        untell();
        knownOnADay();
        mainOnADay();
        boardOrMain();
        result();
        hardness();
        Due.close();
    }

    /** Three EXAMINERS; ENTRIES 0 and 1 of a GRADE with PARTS of 10 and 20, ENTRY 2 of one without. */
    private static Run run(String sentence) {
        return new Run(sentence).read(0, "grade 1{part p 10;part q 20;}grade 2{}", 2).call("centre()",
            "examiner(0, 0)", "examiner(0, 1)", "examiner(0, 255)", "entry(1, 0, 1, 0, 9, -1)",
            "entry(2, 0, 1, 0, 9, 0)", "entry(3, 0, 2, 0, 9, -1)", "entry(4, 1, 1, 0, 9, -1)",
            "entry(4, 0, 3, 0, 9, -1)");
    }

    private static void later() {
        new Run("20: 0 .. 1000").due("later(0)", 0).due("later(1)", 1).due("later(1000)", 1001)
            .refusedEach("later(#)", -1, "-1", "1001", "min", "max").due("later(0)", 1001);
        new Run("20: above 100,000").dueTimes(99, "later(1000)", 1000, 1000).due("later(1)", 99001)
            .refused("later(1000)", -1).due("later(998)", 99999).refusedEach("later(#)", -1, "2", "1000", "max")
            .due("later(1)", 100000).refusedEach("later(#)", -1, "1", "1000", "max", "-1", "min")
            .due("later(0)", 100000).due("about(0)", 100000);
    }

    private static void mark() {
        run("21: an ENTRY").refusedEach("mark(#, 0, 0, 5)", -1, "-1", "5", "40", "min", "max")
            .due("mark(0, 0, 0, 5)", 0);
        run("21: by an EXAMINER").refusedEach("mark(0, #, 0, 5)", -1, "-1", "3", "5", "min", "max")
            .due("mark(0, 2, 0, 5)", 0);
        run("21: a PART, by its number in the GRADE").refusedEach("mark(0, 0, #, 5)", -1, "-1", "2", "6", "10",
            "min", "max").due("mark(0, 0, 0, 5)", 0).due("mark(0, 0, 1, 5)", 1);
        run("21: 0 to its most").refusedEach("mark(0, 0, 0, #)", -1, "-1", "11", "min", "max")
            .due("mark(0, 0, 0, 0)", 0).due("known(0, 0, 0)", 0).due("mark(0, 0, 0, 10)", 1)
            .due("known(0, 0, 0)", 10).refused("mark(0, 0, 1, 21)", -1).due("mark(0, 0, 1, 20)", 2);
        run("21: a GRADE without PARTS, a TERM without a text, a GRADE that is not told")
            .refused("mark(2, 0, 0, 0)", -1).refused("mark(3, 0, 0, 0)", -1).refused("mark(4, 0, 0, 0)", -1);
        run("21: as the TERM's text is then").due("mark(0, 0, 1, 20)", 0).read(0, "grade 1{part z 3;}", 1)
            .refused("mark(0, 0, 1, 2)", -1).refused("mark(0, 0, 0, 4)", -1).due("mark(0, 0, 0, 3)", 1)
            .read(0, "", 0).refused("mark(0, 0, 0, 0)", -1).due("known(0, 0, 0)", 3);
        run("21: who MAY not take it may still mark").due("mark(1, 0, 0, 1)", 0).due("main(1, 0)", 0);
    }

    private static void mostMarks() {
        Run run = run("21: there are 200").dueTimes(200, "mark(0, 0, 0, 7)", 0, 1).refused("mark(0, 0, 0, 7)", -1)
            .refused("mark(1, 1, 1, 7)", -1).due("about(5)", 200);
        run.due("untell(199)", 1).refused("mark(0, 0, 0, 7)", -1).due("untell(200)", 0).due("known(0, 0, 0)", 7);
        run("22: there are 200").dueTimes(199, "mark(0, 0, 0, 7)", 0, 1).due("appeal(0, 0, 8)", 199)
            .refused("appeal(0, 0, 9)", -1).refused("mark(0, 0, 0, 9)", -1).due("known(0, 0, 0)", 8)
            .due("about(5)", 200);
    }

    private static void appeal() {
        run("22: the PART has a mark, as known now").refused("appeal(0, 0, 5)", -1).due("mark(0, 0, 0, 5)", 0)
            .refused("appeal(0, 1, 5)", -1).refused("appeal(1, 0, 5)", -1).due("appeal(0, 0, 6)", 1);
        run("22: a mark that is UNTOLD is not known now").due("mark(0, 0, 0, 5)", 0).due("later(1)", 1)
            .due("untell(0)", 1).refused("appeal(0, 0, 5)", -1).due("known(0, 0, 0)", 5)
            .due("mark(0, 0, 0, 6)", 1).due("appeal(0, 0, 5)", 2);
        run("22: one of another than MAIN is not the PART's mark").due("mark(0, 1, 1, 5)", 0)
            .due("mark(0, 2, 0, 5)", 1).due("main(0, 0)", 1).due("known(0, 0, 0)", -1).refused("appeal(0, 0, 5)", -1)
            .due("appeal(0, 1, 5)", 2);
        run("22: an APPEAL upon an APPEAL").due("mark(0, 0, 0, 5)", 0).due("appeal(0, 0, 6)", 1).due("untell(0)", 1)
            .due("appeal(0, 0, 7)", 2).due("known(0, 0, 0)", 7).due("untell(1)", 1).due("untell(2)", 1)
            .refused("appeal(0, 0, 7)", -1);
        run("22: likewise: an ENTRY, a PART, 0 to its most").call("mark(0, 0, 0, 5)", "mark(0, 0, 1, 5)")
            .refusedEach("appeal(#, 0, 5)", -1, "-1", "5", "40", "min", "max")
            .refusedEach("appeal(0, #, 5)", -1, "-1", "2", "6", "min", "max")
            .refusedEach("appeal(0, 0, #)", -1, "-1", "11", "min", "max").due("appeal(0, 0, 0)", 2)
            .due("known(0, 0, 0)", 0).due("appeal(0, 0, 10)", 3).due("known(0, 0, 0)", 10);
        run("22: likewise: as the TERM's text is then").call("mark(0, 0, 0, 9)", "mark(0, 0, 1, 9)")
            .read(0, "grade 1{part z 3;}", 1).refused("appeal(0, 0, 4)", -1).refused("appeal(0, 1, 1)", -1)
            .due("appeal(0, 0, 3)", 2).read(0, "", 0).refused("appeal(0, 0, 1)", -1);
    }

    private static void untell() {
        run("23: there is none such").refusedEach("untell(#)", 0, "-1", "0", "199", "200", "min", "max")
            .call("mark(0, 0, 0, 5)").refusedEach("untell(#)", 0, "-1", "1", "200", "min", "max")
            .due("untell(0)", 1);
        run("23: it is so already").call("mark(0, 0, 0, 5)", "later(1)").due("untell(0)", 1).refused("untell(0)", 0)
            .due("later(5)", 6).refused("untell(0)", 0).due("known(0, 0, 0)", 5).due("known(0, 0, 1)", -1);
        run("23: on the same DAY").call("later(3)", "mark(0, 0, 0, 5)").due("untell(0)", 1)
            .due("known(0, 0, 2)", -1).due("known(0, 0, 3)", -1).due("known(0, 0, 4)", -1).due("about(5)", 1);
        run("23: an APPEAL too").call("mark(0, 0, 0, 5)", "appeal(0, 0, 6)").due("untell(1)", 1)
            .due("known(0, 0, 0)", 5).refused("untell(1)", 0);
    }

    private static void knownOnADay() {
        Run run = run("24: told on k or before, and not UNTOLD on k or before").call("later(2)", "mark(0, 0, 0, 4)",
            "later(3)").due("untell(0)", 1);
        long[] due = {-1, -1, 4, 4, 4, -1, -1};
        for (int day = 0; day < due.length; day++) {
            run.due("known(0, 0, " + day + ")", due[day]).due("main(0, " + day + ")", due[day] < 0 ? -1 : 0);
        }
        run.due("known(0, 0, -1)", -1).due("known(0, 0, min)", -1).due("known(0, 0, max)", -1);
        run("24: on days to come as now").call("mark(0, 0, 0, 4)").due("known(0, 0, 1)", 4).due("known(0, 0, 100001)", 4)
            .due("known(0, 0, max)", 4).due("known(0, 0, -1)", -1).due("known(0, 0, min)", -1);
        Run none = run("24: NONE if it has none").call("mark(0, 0, 0, 4)").due("known(0, 1, 0)", -1)
            .due("known(1, 0, 0)", -1);
        for (String n : new String[] {"-1", "5", "40", "min", "max"}) {
            none.due("known(" + n + ", 0, 0)", -1).due("known(0, " + n + ", 0)", -1);
        }
        run("24: on the last DAY of all").dueTimes(100, "later(1000)", 1000, 1000).call("mark(0, 0, 0, 4)")
            .due("known(0, 0, 99999)", -1).due("known(0, 0, 100000)", 4).due("untell(0)", 1)
            .due("known(0, 0, 100000)", -1).due("known(0, 0, max)", -1);
    }

    private static void mainOnADay() {
        Run none = run("25: NONE").due("main(0, 0)", -1).call("mark(0, 2, 1, 4)").due("main(0, 0)", 2)
            .due("main(0, -1)", -1).due("main(0, min)", -1).due("main(0, max)", 2).due("main(1, 0)", -1);
        for (String n : new String[] {"-1", "5", "40", "min", "max"}) {
            none.due("main(" + n + ", 0)", -1);
        }
        run("25: who told its first MARK known then").call("mark(0, 2, 1, 4)", "mark(0, 1, 1, 5)", "later(1)",
            "mark(0, 0, 1, 6)").due("main(0, 1)", 2).due("untell(0)", 1).due("main(0, 0)", 2).due("main(0, 1)", 1)
            .due("later(1)", 2).due("untell(1)", 1).due("main(0, 0)", 2).due("main(0, 1)", 1).due("main(0, 2)", 0)
            .due("untell(2)", 1).due("main(0, 2)", -1).due("main(0, 1)", 1);
        run("25: also of another PART").call("mark(0, 1, 1, 4)", "mark(0, 0, 0, 5)").due("main(0, 0)", 1)
            .due("known(0, 0, 0)", -1).due("known(0, 1, 0)", 4);
    }

    private static void boardOrMain() {
        run("24: the last one of the BOARD's; without it the last one of MAIN's").call("mark(0, 0, 0, 1)",
            "mark(0, 1, 0, 2)").due("known(0, 0, 0)", 1).call("mark(0, 0, 0, 3)").due("known(0, 0, 0)", 3)
            .call("mark(0, 1, 0, 4)").due("known(0, 0, 0)", 3).call("appeal(0, 0, 5)").due("known(0, 0, 0)", 5)
            .call("mark(0, 0, 0, 6)").due("known(0, 0, 0)", 5).call("appeal(0, 0, 7)").due("known(0, 0, 0)", 7)
            .due("untell(6)", 1).due("known(0, 0, 0)", 5).due("untell(4)", 1).due("known(0, 0, 0)", 6);
        run("24: the BOARD's of one PART does not count for another").call("mark(0, 0, 0, 1)", "mark(0, 0, 1, 2)",
            "appeal(0, 1, 9)").due("known(0, 0, 0)", 1).due("known(0, 1, 0)", 9);
    }

    private static void result() {
        Run none = new Run("26: NONE, too, if there is no such ENTRY").due("result(0, 0)", -1).read(0, "grade 1{}", 1)
            .call("entry(0, 0, 1, 0, 9, -1)").due("result(0, 0)", 1);
        for (String n : new String[] {"-1", "1", "40", "min", "max"}) {
            none.due("result(" + n + ", 0)", -1);
        }
        run("26: NONE if a PART of its GRADE has no mark").due("result(0, 0)", -1).call("mark(0, 0, 0, 1)")
            .due("result(0, 0)", -1).call("mark(0, 1, 1, 1)").due("result(0, 0)", -1).call("mark(0, 0, 1, 1)")
            .due("result(0, 0)", 1).due("result(0, -1)", -1).due("result(0, min)", -1).due("result(0, max)", 1);
        run("26: without PARTS on any day").due("result(2, 0)", 1).due("result(2, min)", 1).due("result(2, max)", 1);
        run("26: NONE if not GOOD").due("result(3, 0)", -1).due("result(4, 0)", -1)
            .read(0, "grade 2{must 0;pass 0;}", 1).due("result(2, 0)", -1).read(0, "grade 2{must 1;pass 0;}", 1)
            .due("result(2, 0)", 0);
        int[][] rules = {{-1, -1, 1}, {0, -1, 0}, {1, -1, 1}, {-1, 0, 1}, {-1, 1, 2}, {0, 1, 0}, {1, 0, 1},
            {1, 1, 2}, {7, 7, 2}};
        for (int[] n : rules) {
            String text = "grade 2{" + (n[0] < 0 ? "" : "pass " + n[0] + ";") + (n[1] < 0 ? "" : "merit " + n[1] + ";")
                + "}";
            run("26: pass (1 if not told), merit (0 if not told)").read(0, text, 1).due("result(2, 0)", n[2]);
        }
        run("26: below 0 is not 0").read(0, "grade 2{pass 0-1;merit 0-1;}", 1).due("result(2, 0)", 2);
    }

    private static void hardness() {
        Run none = run("27: -1000 if there is nothing to tell it by, or no such EXAMINER");
        for (String n : new String[] {"-1", "3", "5", "6", "min", "max"}) {
            none.due("hardness(" + n + ")", -1000);
        }
        none.due("hardness(0)", -1000).call("mark(0, 0, 0, 4)").due("hardness(0)", -1000).call("appeal(0, 0, 9)")
            .due("hardness(0)", -1000).call("mark(0, 1, 1, 9)", "mark(1, 1, 0, 9)").due("hardness(0)", -1000)
            .call("mark(0, 1, 0, 10)").due("hardness(0)", 6).due("hardness(1)", -6).due("hardness(2)", -1000)
            .due("untell(4)", 1).due("hardness(0)", -1000).due("hardness(1)", -1000);
        new Run("27: the most and the least").read(0, "grade 1{part p 200;}", 1).call("centre()", "examiner(0, 0)",
            "examiner(0, 0)", "entry(0, 0, 1, 0, 9, -1)", "mark(0, 0, 0, 0)", "mark(0, 1, 0, 200)")
            .due("hardness(0)", 200).due("hardness(1)", -200);
        run("27: alike is 0").call("mark(0, 0, 0, 4)", "mark(0, 1, 0, 4)").due("hardness(0)", 0).due("hardness(1)", 0);
        run("27: of an even number the lower of both").call("mark(0, 0, 0, 4)", "mark(0, 1, 0, 5)",
            "mark(0, 0, 1, 4)", "mark(0, 1, 1, 9)").due("hardness(0)", 1).due("hardness(1)", -5)
            .call("mark(1, 0, 0, 4)", "mark(1, 1, 0, 7)").due("hardness(0)", 3).due("hardness(1)", -3)
            .call("mark(1, 0, 1, 4)", "mark(1, 1, 1, 8)").due("hardness(0)", 3).due("hardness(1)", -4);
        run("27: each pair of EXAMINERS, the last ones of both").call("mark(0, 0, 0, 1)", "mark(0, 1, 0, 1)",
            "mark(0, 2, 0, 1)", "mark(0, 2, 0, 9)", "mark(0, 1, 0, 4)", "mark(0, 0, 0, 3)").due("hardness(0)", 1)
            .due("hardness(1)", -1).due("hardness(2)", -6).due("untell(5)", 1).due("hardness(0)", 3)
            .due("untell(3)", 1).due("hardness(0)", 0).due("hardness(2)", 0);
    }
}
