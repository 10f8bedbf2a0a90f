/** Every boundary that the document's ENTRIES and promises 7 to 9 name, sentence by sentence. */
public final class EntryEdgesTest {
    public static void main(String[] args) {
        entry();
        teachers();
        mostEntries();
        piece();
        words();
        mostPieces();
        judge();
        good();
        Due.close();
    }

    private static void entry() {
        new Run("7: CANDIDATE 0 .. 99").refusedEach("entry(#, 0, 1, 0, 9, -1)", -1, "-1", "100", "min", "max")
            .due("entry(0, 0, 1, 0, 9, -1)", 0).due("entry(99, 0, 1, 0, 9, -1)", 1);
        new Run("7: TERM 0 .. 3").refusedEach("entry(5, #, 1, 0, 9, -1)", -1, "-1", "4", "min", "max")
            .due("entry(5, 0, 1, 0, 9, -1)", 0).due("entry(5, 3, 1, 0, 9, -1)", 1);
        new Run("7: GRADE 1 .. 8").refusedEach("entry(5, 0, #, 0, 9, -1)", -1, "-1", "0", "9", "min", "max")
            .due("entry(5, 0, 1, 0, 9, -1)", 0).due("entry(5, 0, 8, 0, 9, -1)", 1);
        new Run("7: INSTRUMENT 0 .. 7").refusedEach("entry(5, 0, 1, #, 9, -1)", -1, "-1", "8", "min", "max")
            .due("entry(5, 0, 1, 0, 9, -1)", 0).due("entry(5, 0, 1, 7, 9, -1)", 1);
        new Run("7: AGE 4 .. 99").refusedEach("entry(5, 0, 1, 0, #, -1)", -1, "-1", "0", "3", "100", "min", "max")
            .due("entry(5, 0, 1, 0, 4, -1)", 0).due("entry(5, 0, 1, 0, 99, -1)", 1);
    }

    private static void teachers() {
        new Run("7: a TEACHER: an EXAMINER, or NONE").refusedEach("entry(5, 0, 1, 0, 9, #)", -1, "0", "-2", "min",
            "max").due("entry(5, 0, 1, 0, 9, -1)", 0).call("centre()", "examiner(0, 0)")
            .due("entry(5, 0, 1, 0, 9, 0)", 1).refusedEach("entry(5, 0, 1, 0, 9, #)", -1, "1", "4", "5")
            .call("examiner(0, 0)", "examiner(0, 0)", "examiner(0, 0)", "examiner(0, 0)")
            .due("entry(5, 0, 1, 0, 9, 4)", 2).refusedEach("entry(5, 0, 1, 0, 9, #)", -1, "5", "6");
    }

    private static void mostEntries() {
        new Run("7: there are 40").dueTimes(40, "entry(#, 0, 1, 0, 9, -1)", 0, 1)
            .refused("entry(50, 0, 1, 0, 9, -1)", -1).refused("entry(100, 0, 1, 0, 9, -1)", -1)
            .due("about(1)", 40).due("judge(39)", -2).due("judge(40)", -3);
        new Run("7: a CANDIDATE may have many, all alike").dueTimes(40, "entry(7, 2, 3, 4, 9, -1)", 0, 1)
            .refused("entry(7, 2, 3, 4, 9, -1)", -1);
        new Run("7: one without PIECES").read(0, "grade 1{must pieces;}", 1).due("entry(0, 0, 1, 0, 9, -1)", 0)
            .due("judge(0)", 0);
    }

    private static void piece() {
        new Run("8: no such ENTRY").refusedEach("piece(#, 'a')", -1, "-1", "0", "39", "min", "max")
            .call("entry(0, 0, 1, 0, 9, -1)").refusedEach("piece(#, 'a')", -1, "-1", "1", "40", "min", "max")
            .due("piece(0, 'a')", 1);
        new Run("8: it is there already").call("entry(0, 0, 1, 0, 9, -1)").due("piece(0, 'a')", 1)
            .refused("piece(0, 'a')", -1).due("piece(0, 'b')", 2).refused("piece(0, 'a')", -1)
            .refused("piece(0, 'b')", -1).due("piece(0, 'c')", 3).refused("piece(0, 'c')", -1)
            .due("piece(0, 'ab')", 4);
        new Run("8: in another ENTRY it is not there").call("entry(0, 0, 1, 0, 9, -1)", "entry(0, 0, 1, 0, 9, -1)")
            .due("piece(0, 'a')", 1).due("piece(1, 'a')", 1);
    }

    private static void words() {
        Run run = new Run("8: a word as above").call("entry(0, 0, 1, 0, 9, -1)");
        // No byte at all; digits first; bytes next to a .. z and 0 .. 9; 0s behind a letter.
        run.refusedEach("piece(0, #)", -1, "0", "0x30", "0x39", "0x3161", "0x60", "0x7b", "0x41", "0x5a",
            "0x612f", "0x613a", "0x6160", "0x617b", "0x6141", "0x6120", "0x610a", "0x615f", "0x6100", "0x610062",
            "0x6100000000000000", "0x6162636465666700", "0x80", "0xe1", "0x61e1", "0x3132333435363738", "-1",
            "-9223372036854775808", "9223372036854775807", "-0x6162");
        run.due("piece(0, 'a')", 1).due("piece(0, 'z')", 2).due("piece(0, 'a0z9a0z9')", 3)
            .due("piece(0, 'zzzzzzzz')", 4);
        Run kept = new Run("8: also one that is no NAME");
        String[] words = {"grade", "list", "part", "minutes", "must", "pass", "merit", "or", "and", "not", "own",
            "pieces", "age", "total", "least"};
        for (int i = 0; i < words.length; i++) {
            kept.due("entry(0, 0, 1, 0, 9, -1)", i).due("piece(" + i + ", '" + words[i] + "')", 1)
                .refused("piece(" + i + ", '" + words[i] + "')", -1);
        }
        kept.read(0, "grade 1{list a=b;must own;}", 1).due("judge(0)", -1).due("judge(14)", -1);
    }

    private static void mostPieces() {
        Run run = new Run("8: there are 4");
        for (int entry = 0; entry < 40; entry++) {
            run.due("entry(0, 0, 1, 0, 9, -1)", entry);
        }
        for (int entry : new int[] {39, 0, 20}) {
            run.dueTimes(4, "piece(" + entry + ", 'p#')", 1, 1).refused("piece(" + entry + ", 'p4')", -1)
                .refused("piece(" + entry + ", 'p3')", -1);
        }
        run.due("piece(1, 'p0')", 1).due("piece(38, 'p0')", 1);
    }

    private static void judge() {
        Run run = new Run("9: there is no such ENTRY").due("judge(0)", -3).call("entry(0, 1, 5, 0, 9, -1)");
        for (String none : new String[] {"-1", "1", "40", "min", "max"}) {
            run.due("judge(" + none + ")", -3);
        }
        new Run("9: its TERM has no text, or that not its GRADE").call("entry(0, 1, 5, 0, 9, -1)").due("judge(0)", -2)
            .read(0, "grade 5{}", 1).due("judge(0)", -2).read(1, "", 0).due("judge(0)", -2)
            .read(1, "grade 4{}grade 6{}", 2).due("judge(0)", -2).read(1, "grade 5{}", 1).due("judge(0)", -1)
            .read(1, "grade 5", -1).due("judge(0)", -1);
        for (int zero = 0; zero < 8; zero++) {
            new Run("9: which must is the first that is 0").read(0, "grade 1{" + Due.times(zero, "must 1;")
                + Due.times(8 - zero, "must 0;") + "}", 1).call("entry(0, 0, 1, 0, 9, -1)").due("judge(0)", zero);
        }
    }

    private static void good() {
        new Run("GOOD: all musts are not 0").read(0, "grade 1{must 0-1;must 2;must 999999;must not 0;}grade 2{}", 2)
            .call("entry(0, 0, 1, 0, 9, -1)", "entry(0, 0, 2, 0, 9, -1)").due("judge(0)", -1).due("judge(1)", -1);
        new Run("a LIST: how many of the PIECES are in it, 0 to 4").read(0, "grade 1{list l=a,b,c,d,e;must l;"
            + "must l>1;must l>2;must l>3;must l>4;}", 1).call("entry(0, 0, 1, 0, 9, -1)").due("judge(0)", 0)
            .call("piece(0, 'a')").due("judge(0)", 1).call("piece(0, 'b')").due("judge(0)", 2)
            .call("piece(0, 'c')").due("judge(0)", 3).call("piece(0, 'd')").due("judge(0)", 4);
        new Run("pieces: how many, 0 to 4").read(0, "grade 1{must pieces=0;}grade 2{must pieces=4;}", 2)
            .call("entry(0, 0, 1, 0, 9, -1)", "entry(0, 0, 2, 0, 9, -1)").due("judge(0)", -1).due("judge(1)", 0)
            .dueTimes(4, "piece(1, 'a#')", 1, 1).due("judge(1)", -1).call("piece(0, 'a')").due("judge(0)", 0);
    }
}
