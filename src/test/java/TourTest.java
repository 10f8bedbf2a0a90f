import java.util.Random;

/** Promises 17 and 18: the best tour, told by hand and against all tours tried one by one. */
public final class TourTest {
    public static void main(String[] args) {
        withoutSessions();
        directlyOrByHome();
        goingOnMayBeLonger();
        theFirstOfAlike();
        laterDaysTurnTheFirst();
        noneTwoOnADay();
        theLastOfAll();
        latestTour();
        againstAllTours();
        Due.close();
    }

    private static ExamTour centres(int count) {
        ExamTour office = new ExamTour();
        for (int i = 0; i < count; i++) {
            office.centre();
        }
        return office;
    }

    private static void chosen(ExamTour office, int... examiners) {
        for (int session = 0; session < examiners.length; session++) {
            Due.is("toured(" + session + ")", office.toured(session), examiners[session]);
        }
    }

    private static void withoutSessions() {
        ExamTour office = centres(1);
        Due.is("without any", office.tour(), 0);
        office.session(0, 0);
        Due.is("without examiners", office.tour(), -2);
        chosen(office, -1, -1);
        office.examiner(0, 0);
        Due.is("with one", office.tour(), 0);
        chosen(office, 0, -1);
        for (int session : new int[] {Integer.MIN_VALUE, -1, 1, 9, Integer.MAX_VALUE}) {
            Due.is("toured(" + session + ")", office.toured(session), -1);
        }
    }

    private static void directlyOrByHome() {
        ExamTour office = centres(3);
        office.way(0, 1, 100);
        office.way(0, 2, 10);
        office.way(1, 2, 1);
        office.examiner(0, 0);
        office.session(1, 5);
        Due.is("there and back", office.tour(), 200);
        office.session(2, 6);
        Due.is("on the day right behind", office.tour(), 111);
        office.session(1, 8);
        Due.is("a day between: by home", office.tour(), 311);
        office.session(2, 4);
        Due.is("the day right ahead", office.tour(), 10 + 1 + 1 + 10 + 200);
        ExamTour other = centres(3);
        other.way(0, 1, 100);
        other.way(1, 2, 7);
        other.way(0, 2, 50);
        other.examiner(2, 0);
        other.session(1, 98);
        other.session(1, 99);
        Due.is("staying there", other.tour(), 14);
        other.session(0, 0);
        Due.is("days are not round", other.tour(), 114);
    }

    private static void goingOnMayBeLonger() {
        ExamTour office = centres(3);
        office.way(0, 1, 1);
        office.way(0, 2, 2);
        office.way(1, 2, 600);
        office.examiner(0, 0);
        office.session(1, 1);
        office.session(2, 2);
        Due.is("directly, though by home is shorter", office.tour(), 603);
        office.examiner(0, 0);
        Due.is("so two are better", office.tour(), 6);
        chosen(office, 0, 1);
    }

    private static void theFirstOfAlike() {
        ExamTour office = centres(2);
        office.way(0, 1, 5);
        office.examiner(0, 0);
        office.examiner(0, 0);
        office.session(1, 9);
        office.session(1, 3);
        office.session(1, 6);
        Due.is("all alike", office.tour(), 30);
        chosen(office, 0, 0, 0);
        ExamTour other = centres(2);
        other.way(0, 1, 5);
        other.examiner(1, 0);
        other.examiner(0, 0);
        other.examiner(0, 0);
        other.session(0, 2);
        other.session(0, 2);
        Due.is("the nearer ones", other.tour(), 0);
        chosen(other, 1, 2);
    }

    /** Session 0 is on the latest day: its examiner counts first, though it is given last. */
    private static void laterDaysTurnTheFirst() {
        ExamTour office = centres(3);
        office.way(0, 1, 10);
        office.way(0, 2, 10);
        office.way(1, 2, 20);
        office.examiner(0, 1);
        office.examiner(0, 3);
        office.session(1, 7);
        office.session(1, 6);
        office.entry(0, 0, 1, 1, 9, -1);
        office.put(0, 1);
        Due.is("one goes on", office.tour(), 20);
        chosen(office, 1, 1);
        office.put(0, -1);
        Due.is("either", office.tour(), 20);
        chosen(office, 0, 0);
        ExamTour other = centres(2);
        other.way(0, 1, 600);
        other.examiner(0, 0);
        other.examiner(0, 0);
        other.session(0, 3);
        other.session(0, 3);
        other.session(0, 2);
        other.session(0, 2);
        Due.is("nowhere to go", other.tour(), 0);
        chosen(other, 0, 1, 0, 1);
    }

    private static void noneTwoOnADay() {
        ExamTour office = centres(1);
        for (int i = 0; i < 5; i++) {
            office.examiner(0, 1 << i);
        }
        for (int i = 0; i < 5; i++) {
            office.session(0, 40);
        }
        Due.is("five for five", office.tour(), 0);
        chosen(office, 0, 1, 2, 3, 4);
        for (int i = 0; i < 5; i++) {
            office.entry(i, 0, 1, 4 - i, 9, -1);
            office.put(i, i);
        }
        Due.is("who must", office.tour(), 0);
        chosen(office, 4, 3, 2, 1, 0);
        office.session(0, 40);
        Due.is("six for five", office.tour(), -2);
        Due.is("nobody is stuck though", office.stuck(), -1);
        chosen(office, 4, 3, 2, 1, 0, -1);
        office.session(0, 41);
        Due.is("nor with other days", office.tour(), -2);
    }

    /** The last of all ways to give five sessions of a day to five examiners is the best. */
    private static void theLastOfAll() {
        ExamTour office = centres(5);
        for (int a = 0; a < 5; a++) {
            for (int b = 0; b < a; b++) {
                office.way(a, b, 50);
            }
        }
        for (int i = 0; i < 5; i++) {
            office.examiner(i, 0);
        }
        for (int i = 0; i < 5; i++) {
            office.session(4 - i, 7);
        }
        Due.is("each at home", office.tour(), 0);
        chosen(office, 4, 3, 2, 1, 0);
        for (int i = 0; i < 4; i++) {
            office.session(i, 8);
        }
        Due.is("and on", office.tour(), 0);
        chosen(office, 4, 3, 2, 1, 0, 0, 1, 2, 3);
    }

    private static void latestTour() {
        ExamTour office = centres(2);
        office.way(0, 1, 9);
        office.examiner(0, 1);
        office.examiner(1, 1);
        office.session(0, 1);
        Due.is("tour", office.tour(), 0);
        chosen(office, 0, -1);
        office.session(1, 1);
        chosen(office, 0, -1);
        Due.is("tour", office.tour(), 0);
        chosen(office, 0, 1);
        office.entry(0, 0, 1, 1, 9, -1);
        office.put(0, 0);
        Due.is("none may", office.tour(), -2);
        chosen(office, 0, 1);
        office.put(0, -1);
        office.entry(0, 0, 1, 0, 9, 0);
        office.put(1, 0);
        Due.is("not to its own pupil", office.tour(), 36);
        chosen(office, 1, 0);
        office.put(1, -1);
        chosen(office, 1, 0);
        Due.is("again", office.tour(), 0);
        chosen(office, 0, 1);
    }

    private static void againstAllTours() {
        Random random = new Random(7);
        for (int round = 0; round < 1500; round++) {
            int most = round % 100 == 0 ? 9 : 7;
            Due.is("round " + round, tryAll(random, most), true);
        }
    }

    private static boolean tryAll(Random random, int mostSessions) {
        int centres = 1 + random.nextInt(8);
        int examiners = 1 + random.nextInt(5);
        int sessions = 1 + random.nextInt(mostSessions);
        int days = 1 + random.nextInt(random.nextBoolean() ? 4 : 9);
        int longest = random.nextBoolean() ? 3 : 601;
        ExamTour office = centres(centres);
        AllTours all = new AllTours(centres, examiners, sessions);
        for (int a = 0; a < centres; a++) {
            for (int b = 0; b < a; b++) {
                int minutes = random.nextInt(longest);
                office.way(a, b, minutes);
                all.ways[a][b] = minutes;
                all.ways[b][a] = minutes;
            }
        }
        for (int x = 0; x < examiners; x++) {
            all.homes[x] = random.nextInt(centres);
            office.examiner(all.homes[x], random.nextInt(4) == 0 ? random.nextInt(256) : 255);
        }
        for (int s = 0; s < sessions; s++) {
            all.places[s] = random.nextInt(centres);
            all.days[s] = random.nextInt(days);
            office.session(all.places[s], all.days[s]);
            office.entry(s, 0, 1, random.nextInt(8), 9, random.nextInt(examiners + 1) - 1);
            office.put(s, s);
        }
        for (int s = 0; s < sessions; s++) {
            for (int x = 0; x < examiners; x++) {
                all.may[s][x] = office.may(x, s) == 1;
            }
        }
        int best = all.best();
        boolean alike = office.tour() == best;
        for (int s = 0; s < sessions; s++) {
            alike = alike && office.toured(s) == (best < 0 ? -1 : all.first[s]);
        }
        return alike;
    }

    /** Tries every tour in order, and walks each by days. */
    private static final class AllTours {
        final int[][] ways;
        final int[] homes;
        final int[] places;
        final int[] days;
        final boolean[][] may;
        final int[] given;
        int[] first;
        private int least = Integer.MAX_VALUE;

        AllTours(int centres, int examiners, int sessions) {
            ways = new int[centres][centres];
            homes = new int[examiners];
            places = new int[sessions];
            days = new int[sessions];
            may = new boolean[sessions][examiners];
            given = new int[sessions];
        }

        int best() {
            give(0);
            return first == null ? -2 : least;
        }

        private void give(int session) {
            if (session == given.length) {
                int travel = 0;
                for (int x = 0; x < homes.length; x++) {
                    travel += walk(x);
                }
                if (travel < least) {
                    least = travel;
                    first = given.clone();
                }
                return;
            }
            for (int x = 0; x < homes.length; x++) {
                if (may[session][x] && isFree(x, session)) {
                    given[session] = x;
                    give(session + 1);
                }
            }
        }

        private boolean isFree(int x, int session) {
            for (int s = 0; s < session; s++) {
                if (given[s] == x && days[s] == days[session]) {
                    return false;
                }
            }
            return true;
        }

        private int walk(int x) {
            int travel = 0;
            int last = -1;
            for (int day = 0; day < 100; day++) {
                for (int s = 0; s < given.length; s++) {
                    if (given[s] == x && days[s] == day) {
                        if (last >= 0 && days[last] == day - 1) {
                            travel += ways[places[last]][places[s]];
                        } else {
                            travel += last < 0 ? 0 : ways[places[last]][homes[x]];
                            travel += ways[homes[x]][places[s]];
                        }
                        last = s;
                    }
                }
            }
            return last < 0 ? 0 : travel + ways[places[last]][homes[x]];
        }
    }
}
