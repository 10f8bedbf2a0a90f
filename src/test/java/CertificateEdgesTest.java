/** Every boundary that the document's CERTIFICATES and promises 28 to 31 name, sentence by sentence. */
public final class CertificateEdgesTest {
    public static void main(String[] args) {
        certify();
        mostCertificates();
        certificate();
        holds();
        about();
        Due.close();
    }

    /** ENTRIES 0 and 1 of a GRADE with a PART of 10: 5 is a pass, 9 a merit. */
    private static Run run(String sentence) {
        return new Run(sentence).read(0, "grade 1{part p 10;pass p>4;merit p>8;}", 1).call("centre()",
            "examiner(0, 0)", "entry(1, 0, 1, 0, 9, -1)", "entry(2, 0, 1, 0, 9, -1)");
    }

    private static void certify() {
        run("28: if it can't be: no such ENTRY").refusedEach("certify(#)", -1, "-1", "2", "40", "min", "max");
        run("28: RESULT now is 1 or 2").refused("certify(0)", -1).call("mark(0, 0, 0, 4)").refused("certify(0)", -1)
            .call("mark(0, 0, 0, 5)").due("certify(0)", 1).due("certificate(1, 2)", 1).call("mark(1, 0, 0, 9)")
            .due("certify(1)", 2).due("certificate(2, 2)", 2);
        run("28: now, and not on another day").call("mark(0, 0, 0, 9)", "later(1)", "untell(0)").due("result(0, 0)", 2)
            .refused("certify(0)", -1);
        run("28: which has none that HOLDS").call("mark(0, 0, 0, 5)").due("certify(0)", 1).refused("certify(0)", -1)
            .call("mark(0, 0, 0, 9)").refused("certify(0)", -1).call("mark(0, 0, 0, 4)").refused("certify(0)", -1)
            .call("mark(0, 0, 0, 8)").refused("certify(0)", -1).due("about(6)", 1);
        run("28: one that does not HOLD is in no way").call("mark(0, 0, 0, 9)").due("certify(0)", 1)
            .call("mark(0, 0, 0, 5)").due("holds(1, 0)", 0).due("certify(0)", 2).due("certificate(2, 2)", 1)
            .refused("certify(0)", -1).call("mark(0, 0, 0, 10)").due("holds(1, 0)", 1).due("holds(2, 0)", 1)
            .refused("certify(0)", -1);
        run("28: another ENTRY's is in no way").call("mark(0, 0, 0, 5)", "mark(1, 0, 0, 5)").due("certify(1)", 1)
            .due("certify(0)", 2).refused("certify(1)", -1).refused("certify(0)", -1);
    }

    private static void mostCertificates() {
        Run run = new Run("28: there are 60").read(0, "grade 1{merit 1;}", 1)
            .dueTimes(40, "entry(#, 0, 1, 0, 9, -1)", 0, 1).dueTimes(40, "certify(#)", 1, 1)
            .read(0, "grade 1{}", 1).dueTimes(20, "certify(#)", 41, 1).refused("certify(20)", -1)
            .refused("certify(39)", -1).due("about(6)", 60).due("holds(60, 0)", 1).due("certificate(60, 0)", 19);
        run.due("certificate(61, 0)", -1).due("holds(61, 0)", -1).read(0, "grade 1{merit 1;}", 1)
            .due("holds(1, 0)", 1).refused("certify(20)", -1);
    }

    private static void certificate() {
        Run run = run("29: NONE if there is none such").due("certificate(1, 0)", -1).call("later(3)",
            "mark(1, 0, 0, 9)", "certify(1)", "later(4)").due("certificate(1, 0)", 1).due("certificate(1, 1)", 3)
            .due("certificate(1, 2)", 2);
        for (String n : new String[] {"-1", "0", "2", "60", "61", "min", "max"}) {
            run.due("certificate(" + n + ", 0)", -1).due("certificate(" + n + ", 2)", -1);
            run.due("holds(" + n + ", 5)", -1);
        }
        for (String what : new String[] {"-1", "3", "10", "min", "max"}) {
            run.due("certificate(1, " + what + ")", -1);
        }
        run("29: what it was given for stays").call("mark(0, 0, 0, 5)", "certify(0)", "later(9)", "mark(0, 0, 0, 10)")
            .due("certificate(1, 1)", 0).due("certificate(1, 2)", 1).read(0, "", 0).due("certificate(1, 0)", 0)
            .due("certificate(1, 2)", 1);
    }

    private static void holds() {
        run("30: not ahead of the DAY on which it was given").call("mark(0, 0, 0, 5)", "later(7)", "certify(0)")
            .due("holds(1, 6)", 0).due("holds(1, 7)", 1).due("holds(1, 8)", 1).due("holds(1, max)", 1)
            .due("holds(1, 0)", 0).due("holds(1, -1)", 0).due("holds(1, min)", 0);
        run("30: the RESULT as known on k is what it was given for, or better").call("mark(0, 0, 0, 5)", "certify(0)",
            "later(1)", "mark(0, 0, 0, 9)", "later(1)", "mark(0, 0, 0, 4)", "later(1)", "untell(2)", "untell(1)",
            "later(1)", "untell(0)").due("holds(1, 0)", 1).due("holds(1, 1)", 1).due("holds(1, 2)", 0)
            .due("holds(1, 3)", 1).due("holds(1, 4)", 0).due("holds(1, 5)", 0).due("holds(1, max)", 0);
        run("30: less than what it was given for").call("mark(0, 0, 0, 9)", "certify(0)", "later(1)",
            "mark(0, 0, 0, 8)").due("holds(1, 0)", 1).due("holds(1, 1)", 0);
        run("30: the RESULT is by the TERM's text as it is").call("mark(0, 0, 0, 5)", "certify(0)")
            .read(0, "grade 1{part p 10;pass p>5;}", 1).due("holds(1, 0)", 0).read(0, "grade 1{}", 1)
            .due("holds(1, 0)", 1).read(0, "", 0).due("holds(1, 0)", 0);
        Run given = run("30: given on the last DAY of all").call("mark(0, 0, 0, 5)")
            .dueTimes(100, "later(1000)", 1000, 1000).due("certify(0)", 1).due("certificate(1, 1)", 100000);
        given.due("holds(1, 99999)", 0).due("holds(1, 100000)", 1);
    }

    private static void about() {
        Run run = run("31: NONE for another what").call("feed(1, 2, 3, 4, 5)");
        int[] due = {0, 2, 1, 1, 0, 0, 0, 20, -1, -1, 1, 0, 0, 0, -1, -1};
        for (int what = 0; what < due.length; what++) {
            run.due("about(" + what + ")", due[what]);
        }
        for (String what : new String[] {"-1", "-10", "20", "-2147483638", "min", "max"}) {
            run.due("about(" + what + ")", -1);
        }
        new Run("31: GRADES of TERM t (0 without)").dueTimes(4, "about(1#)", 0, 0)
            .read(3, "grade 1{}grade 2{}grade 3{}grade 4{}grade 5{}grade 6{}grade 7{}grade 8{}", 8)
            .due("about(13)", 8).due("about(14)", -1).due("about(12)", 0).read(3, "grade 9{}", -1)
            .due("about(13)", 8).read(3, "", 0).due("about(13)", 0);
    }
}
