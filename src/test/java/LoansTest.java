/** Promises 37 to 44: loans that are asked for and taken. */
public final class LoansTest {
    public static void main(String[] args) {
        ask();
        askRefused();
        bestFees();
        takeBest();
        takeNothing();
        fewestLoans();
        askedFirst();
        besideTakenLoans();
        isLent();
        wrongIndices();
        Checks.finish("LoansTest");
    }

    private static AvalancheGallery withExhibits(int count) {
        return Checks.withExhibits(count, 0, 0);
    }

    /** A gallery with one exhibit; each loan is a first day, a last day and a fee. */
    private static AvalancheGallery withLoans(int... loans) {
        AvalancheGallery gallery = withExhibits(1);
        for (int at = 0; at < loans.length; at += 3) {
            gallery.ask(0, loans[at], loans[at + 1], loans[at + 2]);
        }
        return gallery;
    }

    private static void dueBest(AvalancheGallery gallery, int fees) {
        Checks.due("41 bestFees", fees, () -> gallery.bestFees(0));
        Checks.due("42 bestFeesByTrials", fees, () -> gallery.bestFeesByTrials(0));
    }

    /** Takes the best choice and looks at the days from 0 to 9: a letter "x" for a day on which it is lent. */
    private static void dueTaken(AvalancheGallery gallery, int fees, int count, String days) {
        dueBest(gallery, fees);
        Checks.due("38 takeBest", fees, () -> gallery.takeBest(0));
        Checks.due("40 takenCount", count, () -> gallery.takenCount(0));
        Checks.due("39 askedCount", 0, () -> gallery.askedCount(0));
        StringBuilder lent = new StringBuilder();
        for (int day = 0; day < 10; day++) {
            lent.append(gallery.isLent(0, day) ? 'x' : '.');
        }
        Checks.due("43 days", days, lent::toString);
    }

    private static void ask() {
        AvalancheGallery gallery = withExhibits(2);
        Checks.due("39 none", 0, () -> gallery.askedCount(0));
        for (int loan = 1; loan <= 8; loan++) {
            int number = loan;
            Checks.due("37 ask", number, () -> gallery.ask(0, 0, 99, number));
            Checks.due("39 askedCount", number, () -> gallery.askedCount(0));
        }
        Checks.state("37 a ninth loan", () -> gallery.ask(0, 0, 0, 1));
        Checks.argument("37 argument before state", () -> gallery.ask(0, 0, 0, 0));
        Checks.index("37 index before state", () -> gallery.ask(2, 0, 0, 1));
        Checks.due("37 of another exhibit", 1, () -> gallery.ask(1, 99, 99, 99));
        Checks.due("39 stays", 8, () -> gallery.askedCount(0));
        dueBest(gallery, 8);
    }

    private static void askRefused() {
        AvalancheGallery gallery = withExhibits(1);
        int[][] wrong = {{-1, 5, 1}, {100, 100, 1}, {0, -1, 1}, {0, 100, 1}, {5, 4, 1}, {0, 0, 0}, {0, 0, 100},
            {0, 0, -1}, {Integer.MIN_VALUE, 0, 1}, {0, Integer.MAX_VALUE, 1}};
        for (int[] one : wrong) {
            Checks.argument("37 wrong", () -> gallery.ask(0, one[0], one[1], one[2]));
        }
        Checks.index("37 index before argument", () -> gallery.ask(1, 5, 4, 0));
        Checks.index("37 no exhibit -1", () -> gallery.ask(-1, 0, 0, 1));
        Checks.due("39 nothing asked", 0, () -> gallery.askedCount(0));
        Checks.due("37 no change", 2, gallery::undoCount);
        Checks.due("37 least", 1, () -> gallery.ask(0, 0, 0, 1));
        Checks.due("37 most", 2, () -> gallery.ask(0, 99, 99, 99));
        gallery.passDays(9);
        Checks.due("37 days that are past", 3, () -> gallery.ask(0, 3, 4, 5));
    }

    private static void bestFees() {
        dueBest(withExhibits(1), 0);
        dueBest(withLoans(3, 5, 7), 7);
        dueBest(withLoans(1, 3, 10, 3, 5, 15, 5, 6, 10), 20);
        dueBest(withLoans(1, 3, 10, 3, 5, 25, 5, 6, 10), 25);
        dueBest(withLoans(1, 3, 10, 4, 5, 25, 6, 6, 10), 45);
        // Asked for in another order than that of their last days.
        dueBest(withLoans(8, 9, 4, 0, 1, 3, 4, 7, 6, 2, 3, 5, 1, 8, 17), 18);
        dueBest(withLoans(0, 9, 9, 0, 4, 5, 5, 9, 5, 2, 7, 8), 10);
    }

    private static void takeBest() {
        AvalancheGallery gallery = withLoans(1, 3, 10, 3, 5, 15, 5, 6, 10);
        Checks.due("44 income", 0, gallery::income);
        Checks.due("40 none taken", 0, () -> gallery.takenCount(0));
        dueTaken(gallery, 20, 2, ".xxx.xx...");
        Checks.due("44 income", 20, gallery::income);
        Checks.state("38 no loan is asked for", () -> gallery.takeBest(0));
        gallery.ask(0, 4, 4, 5);
        gallery.ask(0, 8, 9, 3);
        dueTaken(gallery, 8, 4, ".xxxxxx.xx");
        Checks.due("44 income", 28, gallery::income);
    }

    private static void takeNothing() {
        AvalancheGallery gallery = withLoans(2, 4, 9);
        gallery.takeBest(0);
        gallery.ask(0, 4, 8, 50);
        gallery.ask(0, 0, 2, 50);
        int changes = gallery.undoCount();
        dueTaken(gallery, 0, 1, "..xxx.....");
        Checks.due("38 is a change", changes + 1, gallery::undoCount);
        Checks.due("44 income stays", 9, gallery::income);
    }

    private static void fewestLoans() {
        dueTaken(withLoans(0, 0, 5, 1, 1, 5, 0, 3, 10), 10, 1, "xxxx......");
        dueTaken(withLoans(0, 3, 10, 0, 0, 5, 1, 1, 5), 10, 1, "xxxx......");
        dueTaken(withLoans(0, 0, 5, 1, 1, 6, 0, 3, 10), 11, 2, "xx........");
    }

    private static void askedFirst() {
        dueTaken(withLoans(5, 6, 7, 6, 7, 7), 7, 1, ".....xx...");
        dueTaken(withLoans(6, 7, 7, 5, 6, 7), 7, 1, "......xx..");
        dueTaken(withLoans(0, 3, 3, 0, 1, 4, 2, 5, 4, 4, 6, 5), 9, 2, "xx..xxx...");
        // Loans 0 and 3 against loans 1 and 2, or 1 and 3: of those that differ loan 0 was asked for first.
        dueTaken(withLoans(0, 3, 4, 0, 1, 4, 2, 5, 4, 4, 6, 4), 8, 2, "xxxxxxx...");
        dueTaken(withLoans(2, 5, 4, 0, 3, 4, 0, 1, 4, 4, 6, 4), 8, 2, "xxxxxx....");
        // Loan 1 is in both; of loans 2 and 3 the former was asked for first.
        dueTaken(withLoans(0, 9, 1, 0, 0, 4, 4, 4, 4, 4, 5, 4), 8, 2, "x...x.....");
        dueTaken(withLoans(0, 9, 1, 0, 0, 4, 4, 5, 4, 4, 4, 4), 8, 2, "x...xx....");
    }

    private static void besideTakenLoans() {
        AvalancheGallery gallery = withLoans(3, 5, 1);
        gallery.takeBest(0);
        gallery.ask(0, 0, 3, 9);
        gallery.ask(0, 5, 5, 9);
        gallery.ask(0, 4, 4, 9);
        gallery.ask(0, 0, 9, 9);
        dueBest(gallery, 0);
        gallery.ask(0, 0, 2, 2);
        gallery.ask(0, 6, 9, 3);
        dueTaken(gallery, 5, 3, "xxxxxxxxxx");
    }

    private static void isLent() {
        AvalancheGallery gallery = withExhibits(2);
        gallery.ask(0, 0, 0, 1);
        gallery.ask(0, 98, 99, 1);
        Checks.due("43 only asked for", false, () -> gallery.isLent(0, 0));
        gallery.takeBest(0);
        Checks.due("43 day 0", true, () -> gallery.isLent(0, 0));
        Checks.due("43 day 1", false, () -> gallery.isLent(0, 1));
        Checks.due("43 day 97", false, () -> gallery.isLent(0, 97));
        Checks.due("43 day 98", true, () -> gallery.isLent(0, 98));
        Checks.due("43 day 99", true, () -> gallery.isLent(0, 99));
        Checks.due("43 day 100", false, () -> gallery.isLent(0, 100));
        Checks.due("43 day -1", false, () -> gallery.isLent(0, -1));
        Checks.due("43 least", false, () -> gallery.isLent(0, Integer.MIN_VALUE));
        Checks.due("43 most", false, () -> gallery.isLent(0, Integer.MAX_VALUE));
        Checks.due("43 the other", false, () -> gallery.isLent(1, 0));
        Checks.due("40 the other", 0, () -> gallery.takenCount(1));
        gallery.ask(1, 0, 9, 4);
        gallery.takeBest(1);
        Checks.due("44 of both", 6, gallery::income);
    }

    private static void wrongIndices() {
        AvalancheGallery gallery = withExhibits(1);
        for (int exhibit : new int[] {-1, 1, Integer.MIN_VALUE, Integer.MAX_VALUE}) {
            Checks.index("37", () -> gallery.ask(exhibit, 0, 0, 1));
            Checks.index("38", () -> gallery.takeBest(exhibit));
            Checks.index("39", () -> gallery.askedCount(exhibit));
            Checks.index("40", () -> gallery.takenCount(exhibit));
            Checks.index("41", () -> gallery.bestFees(exhibit));
            Checks.index("42", () -> gallery.bestFeesByTrials(exhibit));
            Checks.index("43", () -> gallery.isLent(exhibit, 0));
        }
        Checks.state("38 nothing asked", () -> gallery.takeBest(0));
    }
}
