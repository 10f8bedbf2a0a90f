/** Every boundary that the document's TOURS and promises 10 to 19 name, sentence by sentence. */
public final class TourEdgesTest {
    public static void main(String[] args) {
        centre();
        way();
        examiner();
        session();
        put();
        full();
        of();
        may();
        marked();
        tour();
        travel();
        toured();
        stuck();
        Due.close();
    }

    private static Run run(String sentence, int centres) {
        return new Run(sentence).dueTimes(centres, "centre()", 0, 1);
    }

    private static void centre() {
        run("10: there are 8", 8).refused("centre()", -1).refused("centre()", -1).due("about(2)", 8)
            .due("way(7, 0, 1)", 1).due("way(7, 8, 1)", 0).due("examiner(7, 0)", 0).due("session(7, 0)", 0);
    }

    private static void way() {
        Run run = run("11: two different CENTRES", 3).call("examiner(0, 0)", "session(1, 5)", "session(2, 6)",
            "way(0, 1, 5)", "way(1, 2, 7)", "way(0, 2, 11)").due("tour()", 23);
        run.refusedEach("way(#, 1, 9)", 0, "-1", "3", "7", "8", "min", "max")
            .refusedEach("way(1, #, 9)", 0, "-1", "3", "7", "8", "min", "max")
            .refused("way(0, 0, 9)", 0).refused("way(2, 2, 0)", 0).refused("way(3, 3, 9)", 0);
        run("11: WAYS in minutes 0 .. 600", 2).call("examiner(0, 0)", "session(1, 5)").due("way(0, 1, 600)", 1)
            .refusedEach("way(0, 1, #)", 0, "-1", "601", "min", "max").due("tour()", 1200)
            .due("way(0, 1, 0)", 1).due("tour()", 0);
        run("11: 0 at first, alike both ways", 3).call("examiner(0, 0)", "session(1, 5)").due("tour()", 0)
            .due("way(1, 0, 8)", 1).due("tour()", 16).due("way(0, 1, 9)", 1).due("tour()", 18);
    }

    private static void examiner() {
        run("12: HOME is a CENTRE", 0).refused("examiner(0, 0)", -1).call("centre()")
            .refusedEach("examiner(#, 1)", -1, "-1", "1", "8", "min", "max").due("examiner(0, 1)", 0);
        run("12: INSTRUMENTS 0 .. 255", 1).refusedEach("examiner(0, #)", -1, "-1", "256", "min", "max")
            .due("examiner(0, 0)", 0).due("examiner(0, 255)", 1);
        run("12: there are 5", 1).dueTimes(5, "examiner(0, 1)", 0, 1).refused("examiner(0, 1)", -1)
            .due("about(3)", 5).due("hardness(5)", -1000).call("session(0, 0)").due("may(4, 0)", 1)
            .due("may(5, 0)", -1);
    }

    private static void session() {
        run("13: at a CENTRE", 0).refused("session(0, 0)", -1).call("centre()")
            .refusedEach("session(#, 1)", -1, "-1", "1", "8", "min", "max").due("session(0, 1)", 0);
        run("13: on a day 0 .. 99", 1).refusedEach("session(0, #)", -1, "-1", "100", "min", "max")
            .due("session(0, 0)", 0).due("session(0, 99)", 1).due("of(0, 1)", 0).due("of(1, 1)", 99);
        run("13: there are 9", 1).dueTimes(9, "session(0, #)", 0, 1).refused("session(0, 50)", -1)
            .due("about(4)", 9).due("of(8, 1)", 8).due("of(9, 1)", -1);
        run("13: two may be alike", 1).due("session(0, 5)", 0).due("session(0, 5)", 1);
    }

    private static void put() {
        run("14: if one can't be", 1).call("session(0, 1)", "session(0, 2)", "entry(0, 0, 1, 0, 9, -1)", "put(0, 1)")
            .refusedEach("put(#, 0)", 0, "-1", "1", "40", "min", "max")
            .refusedEach("put(0, #)", 0, "-2", "2", "9", "min", "max")
            .refusedEach("put(#, -1)", 0, "-1", "1", "min", "max").due("of(1, 2)", 1);
        run("14: out of that in which it was", 1).call("session(0, 1)", "session(0, 2)", "entry(0, 0, 1, 0, 9, -1)")
            .due("put(0, 0)", 1).due("of(0, 2)", 1).due("put(0, 1)", 1).due("of(0, 2)", 0).due("of(1, 2)", 1)
            .due("of(0, 3)", 0).due("of(1, 3)", 10);
        run("14: NONE: to none", 1).call("session(0, 1)", "entry(0, 0, 1, 0, 9, -1)").due("put(0, -1)", 1)
            .due("put(0, 0)", 1).due("put(0, -1)", 1).due("of(0, 2)", 0).due("put(0, -1)", 1).due("of(0, 2)", 0);
    }

    private static void full() {
        Run run = run("14: it would be FULL: above 300, counted with it", 1).call("session(0, 1)", "session(0, 2)")
            .dueTimes(31, "entry(#, 0, 1, 0, 9, -1)", 0, 1).dueTimes(30, "put(#, 0)", 1, 0).due("of(0, 3)", 300)
            .due("put(30, 1)", 1).refused("put(30, 0)", 0).due("of(1, 2)", 1).due("of(0, 2)", 30);
        run.due("put(5, 0)", 1).due("of(0, 3)", 300).due("put(5, -1)", 1).due("put(30, 0)", 1)
            .refused("put(5, 0)", 0).due("of(0, 3)", 300);
        run("14: 301 is above 300", 1).call("session(0, 1)").read(0, "grade 1{minutes 100;}grade 2{minutes 101;}", 2)
            .call("entry(0, 0, 1, 0, 9, -1)", "entry(0, 0, 1, 0, 9, -1)", "entry(0, 0, 1, 0, 9, -1)",
                "entry(0, 0, 2, 0, 9, -1)")
            .due("put(0, 0)", 1).due("put(1, 0)", 1).refused("put(3, 0)", 0).due("put(2, 0)", 1).due("of(0, 3)", 300);
        run("14: by their TERMS' texts as they are; 10 for one whose GRADE is not told", 1).call("session(0, 1)")
            .dueTimes(4, "entry(#, 0, 1, 0, 9, -1)", 0, 1).dueTimes(3, "put(#, 0)", 1, 0).due("of(0, 3)", 30)
            .read(0, "grade 1{minutes 120;}", 1).due("of(0, 3)", 360).refused("put(3, 0)", 0).refused("put(0, 0)", 0)
            .due("put(0, -1)", 1).due("of(0, 3)", 240).refused("put(0, 0)", 0).read(0, "grade 2{}", 1)
            .due("of(0, 3)", 20).due("put(3, 0)", 1).due("put(0, 0)", 1).due("of(0, 3)", 40);
    }

    private static void of() {
        Run run = run("15: NONE if there is none such", 2).due("of(0, 0)", -1).call("session(1, 42)")
            .due("of(0, 0)", 1).due("of(0, 1)", 42).due("of(0, 2)", 0).due("of(0, 3)", 0);
        for (String none : new String[] {"-1", "4", "10", "min", "max"}) {
            run.due("of(0, " + none + ")", -1);
        }
        for (String none : new String[] {"-1", "1", "9", "min", "max"}) {
            run.due("of(" + none + ", 0)", -1).due("of(" + none + ", 2)", -1).due("of(" + none + ", 3)", -1);
        }
    }

    private static void may() {
        Run run = run("16: NONE if one is none", 1).due("may(0, 0)", -1).call("examiner(0, 1)").due("may(0, 0)", -1)
            .call("session(0, 1)").due("may(0, 0)", 1);
        for (String none : new String[] {"-1", "1", "5", "9", "min", "max"}) {
            run.due("may(" + none + ", 0)", -1).due("may(0, " + none + ")", -1);
            run.due("may(" + none + ", " + none + ")", -1);
        }
        for (int instrument = 0; instrument < 8; instrument++) {
            int others = 255 - (1 << instrument);
            run("16: all INSTRUMENTS of its ENTRIES", 1).call("examiner(0, " + (1 << instrument) + ")",
                "examiner(0, " + others + ")", "examiner(0, 255)", "examiner(0, 0)", "session(0, 1)")
                .dueTimes(4, "may(#, 0)", 1, 0).call("entry(0, 0, 1, " + instrument + ", 9, -1)", "put(0, 0)")
                .due("may(0, 0)", 1).due("may(1, 0)", 0).due("may(2, 0)", 1).due("may(3, 0)", 0);
        }
        run("16: none of their TEACHERS", 1).call("examiner(0, 1)", "examiner(0, 1)", "session(0, 1)",
            "entry(0, 0, 1, 0, 9, -1)", "entry(1, 0, 1, 0, 9, 1)", "put(0, 0)").due("may(0, 0)", 1)
            .due("may(1, 0)", 1).call("put(1, 0)").due("may(0, 0)", 1).due("may(1, 0)", 0);
    }

    private static void marked() {
        run("16: has marked none of their CANDIDATES in another ENTRY", 1).call("examiner(0, 1)", "examiner(0, 1)",
            "session(0, 1)", "entry(7, 0, 1, 0, 9, -1)", "entry(7, 0, 1, 0, 9, -1)", "entry(8, 0, 1, 0, 9, -1)",
            "put(0, 0)").read(0, "grade 1{part p 9;}", 1).due("mark(0, 0, 0, 5)", 0).due("may(0, 0)", 1)
            .due("mark(2, 0, 0, 5)", 1).due("may(0, 0)", 1).due("mark(1, 0, 0, 5)", 2).due("may(0, 0)", 0)
            .due("may(1, 0)", 1).due("untell(2)", 1).due("may(0, 0)", 1).due("mark(1, 0, 0, 5)", 3)
            .due("mark(1, 0, 0, 6)", 4).due("untell(3)", 1).due("may(0, 0)", 0).due("untell(4)", 1)
            .due("may(0, 0)", 1);
        run("16: the BOARD's are no EXAMINER's", 1).call("examiner(0, 1)", "examiner(0, 1)", "examiner(0, 1)",
            "examiner(0, 1)", "examiner(0, 1)", "session(0, 1)", "entry(7, 0, 1, 0, 9, -1)",
            "entry(7, 0, 1, 0, 9, -1)", "put(0, 0)").read(0, "grade 1{part p 9;}", 1).due("mark(1, 0, 0, 5)", 0)
            .due("appeal(1, 0, 6)", 1).due("untell(0)", 1).dueTimes(5, "may(#, 0)", 1, 0);
    }

    private static void tour() {
        new Run("17: 0 without SESSIONS").due("tour()", 0).call("centre()", "examiner(0, 1)").due("tour()", 0)
            .due("toured(0)", -1);
        run("17: -2 if there is no TOUR: no EXAMINER", 1).call("session(0, 1)").refused("tour()", -2);
        run("17: -2: none MAY take it", 1).call("session(0, 1)", "session(0, 5)", "examiner(0, 1)",
            "entry(0, 0, 1, 1, 9, -1)", "put(0, 1)").refused("tour()", -2).due("stuck()", 1).due("put(0, -1)", 1)
            .due("tour()", 0);
        run("17: none two on one day", 1).call("examiner(0, 1)", "session(0, 1)", "session(0, 1)").due("stuck()", -1)
            .refused("tour()", -2).call("examiner(0, 1)").due("tour()", 0).due("toured(0)", 0).due("toured(1)", 1);
        Run five = run("17: five on one day, and no sixth", 1).dueTimes(5, "examiner(0, 255)", 0, 1)
            .dueTimes(5, "session(0, 99)", 0, 1).due("tour()", 0).dueTimes(5, "toured(#)", 0, 1);
        five.call("session(0, 99)").refused("tour()", -2).due("toured(4)", 4).due("toured(5)", -1);
        run("17: nine for one", 2).call("examiner(0, 0)", "way(0, 1, 600)").dueTimes(9, "session(1, 1#)", 0, 1)
            .due("tour()", 1200).dueTimes(9, "toured(#)", 0, 0);
        run("17: nine with days between", 2).call("examiner(0, 0)", "way(0, 1, 600)", "session(1, 0)",
            "session(1, 2)", "session(1, 4)", "session(1, 6)", "session(1, 8)", "session(1, 99)", "session(1, 97)",
            "session(1, 95)", "session(1, 93)").due("tour()", 10800).dueTimes(9, "toured(#)", 0, 0);
        run("17: the last one of all may be the only one", 1).call("examiner(0, 0)", "examiner(0, 0)",
            "examiner(0, 0)", "examiner(0, 0)", "examiner(0, 128)", "entry(0, 0, 1, 7, 9, -1)")
            .dueTimes(9, "session(0, #)", 0, 1).due("put(0, 8)", 1).due("tour()", 0)
            .dueTimes(8, "toured(#)", 0, 0).due("toured(8)", 4);
    }

    private static void travel() {
        String[] ways = {"way(0, 1, 10)", "way(0, 2, 20)", "way(1, 2, 3)", "examiner(0, 0)"};
        run("TRAVEL: on the day right behind directly", 3).call(ways).call("session(1, 98)", "session(2, 99)")
            .due("tour()", 33);
        run("TRAVEL: else by HOME", 3).call(ways).call("session(1, 97)", "session(2, 99)").due("tour()", 60);
        run("TRAVEL: directly, though by HOME is shorter", 3).call(ways).call("way(1, 2, 600)", "session(1, 0)",
            "session(2, 1)").due("tour()", 630);
        run("TRAVEL: a SESSION at HOME", 3).call(ways).call("session(0, 3)").due("tour()", 0)
            .call("session(1, 4)").due("tour()", 20).call("session(0, 5)").due("tour()", 20);
        run("TRAVEL: two days at one CENTRE", 3).call(ways).call("session(2, 3)", "session(2, 4)").due("tour()", 40);
        run("BEST: the first of those with the least sum", 2).call("way(0, 1, 5)", "examiner(0, 0)",
            "examiner(0, 0)", "session(1, 9)", "session(1, 9)", "session(1, 1)").due("tour()", 30)
            .due("toured(0)", 0).due("toured(1)", 1).due("toured(2)", 0);
        run("BEST: less TRAVEL is ahead of a lesser EXAMINER", 2).call("way(0, 1, 1)", "examiner(1, 0)",
            "examiner(0, 0)", "session(0, 9)").due("tour()", 0).due("toured(0)", 1);
    }

    private static void toured() {
        Run run = run("18: NONE without", 1).due("toured(0)", -1).call("session(0, 1)").due("toured(0)", -1)
            .due("tour()", -2).due("toured(0)", -1).call("examiner(0, 1)").due("toured(0)", -1).due("tour()", 0)
            .due("toured(0)", 0);
        for (String none : new String[] {"-1", "1", "9", "min", "max"}) {
            run.due("toured(" + none + ")", -1);
        }
        run.call("session(0, 2)").due("toured(1)", -1).due("tour()", 0).due("toured(1)", 0);
        run("18: by the latest tour() that was 0 or more", 1).call("session(0, 1)", "examiner(0, 1)", "examiner(0, 3)")
            .due("tour()", 0).due("toured(0)", 0).call("entry(0, 0, 1, 1, 9, -1)", "put(0, 0)").due("toured(0)", 0)
            .due("tour()", 0).due("toured(0)", 1).call("entry(0, 0, 1, 2, 9, -1)", "put(1, 0)")
            .refused("tour()", -2).due("toured(0)", 1);
    }

    private static void stuck() {
        new Run("19: NONE if there is none such").due("stuck()", -1).call("centre()", "session(0, 1)")
            .due("stuck()", 0).call("examiner(0, 1)").due("stuck()", -1);
        run("19: the first, of nine", 1).call("examiner(0, 1)").dueTimes(9, "session(0, #)", 0, 1)
            .dueTimes(9, "entry(#, 0, 1, 1, 9, -1)", 0, 1).due("put(8, 8)", 1).due("stuck()", 8)
            .due("put(3, 3)", 1).due("stuck()", 3).due("put(0, 0)", 1).due("stuck()", 0).due("put(0, -1)", 1)
            .due("stuck()", 3).call("examiner(0, 2)").due("stuck()", -1);
    }
}
