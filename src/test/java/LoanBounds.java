/** The edges of promises 37 to 44 and of the terms of loans. */
final class LoanBounds {
    private LoanBounds() {
    }

    static void run() {
        askRefused();
        ask();
        takeBestRefused();
        takeBest();
        counts();
        bestFees();
        isLent();
        income();
        mostLoans();
        daysOfLoans();
        choices();
        besideTaken();
        greatestFees();
        fewestLoans();
        askedFirst();
        allTies();
        othersVanish();
        lentOnlyWhenTaken();
    }

    /** A gallery with one exhibit; each loan is a first day, a last day and a fee. */
    private static AvalancheGallery withLoans(int... loans) {
        AvalancheGallery gallery = Checks.withExhibits(1, 9, 0);
        askFor(gallery, loans);
        return gallery;
    }

    private static void askFor(AvalancheGallery gallery, int... loans) {
        for (int at = 0; at < loans.length; at += 3) {
            gallery.ask(0, loans[at], loans[at + 1], loans[at + 2]);
        }
    }

    /** For each day from 0 on "x" if exhibit 0 is lent on it, or else ".". */
    private static String lentDays(AvalancheGallery gallery, int days) {
        StringBuilder lent = new StringBuilder();
        for (int day = 0; day < days; day++) {
            lent.append(gallery.isLent(0, day) ? 'x' : '.');
        }
        return lent.toString();
    }

    private static void dueFees(AvalancheGallery gallery, int fees) {
        Document.promise(41, "computed loan by loan in the order of their last days");
        Checks.due("bestFees", fees, () -> gallery.bestFees(0));
        Document.promise(42, "computed by trying all sets of loans");
        Checks.due("bestFeesByTrials", fees, () -> gallery.bestFeesByTrials(0));
    }

    private static void askRefused() {
        Document.promise(37, "Throws `IndexOutOfBoundsException`");
        Edges.index(0, Galleries.BARE, (g, exhibit) -> g.ask(exhibit, 3, 4, 5));
        Edges.index(2, Galleries.LADEN, (g, exhibit) -> g.ask(exhibit, 3, 4, 5));
        Edges.index(5, Galleries.exhibits(5), (g, exhibit) -> g.ask(exhibit, 3, 4, 5));
        Edges.refused("no exhibit and nothing else is right", Edges.INDEX, Galleries.LADEN, g -> g.ask(2, 5, -4, 0));
        Document.promise(37, "Throws `IllegalArgumentException`");
        Edges.range(Edges.ARGUMENT, 0, 99, Galleries.LADEN, (g, first) -> g.ask(1, first, 99, 5));
        Edges.range(Edges.ARGUMENT, 0, 99, Galleries.LADEN, (g, last) -> g.ask(0, 0, last, 5));
        Edges.range(Edges.ARGUMENT, 1, 99, Galleries.APART, (g, fee) -> g.ask(1, 0, 0, fee));
        Edges.range(Edges.ARGUMENT, 1, 99, Galleries.APART, (g, fee) -> g.ask(0, 99, 99, fee));
        for (int day : new int[] {0, 1, 9, 50, 98, 99}) {
            Edges.range(Edges.ARGUMENT, day, 99, Galleries.APART, (g, last) -> g.ask(0, day, last, 1));
            Edges.range(Edges.ARGUMENT, 0, day, Galleries.APART, (g, first) -> g.ask(0, first, day, 1));
        }
        Edges.refused("both days too early", Edges.ARGUMENT, Galleries.LADEN, g -> g.ask(0, -2, -1, 5));
        Edges.refused("both days too late", Edges.ARGUMENT, Galleries.LADEN, g -> g.ask(0, 100, 101, 5));
        Document.promise(37, "Throws `IllegalStateException`");
        Edges.refused("a ninth loan", Edges.STATE, Galleries.FULL, g -> g.ask(0, 0, 0, 1));
        Edges.refused("a ninth loan of all days", Edges.STATE, Galleries.FULL, g -> g.ask(0, 0, 99, 99));
        Document.promise(37, "Throws `IllegalArgumentException`");
        Edges.refused("a ninth loan for nothing", Edges.ARGUMENT, Galleries.FULL, g -> g.ask(0, 0, 0, 0));
        Edges.refused("a ninth loan that ends too early", Edges.ARGUMENT, Galleries.FULL, g -> g.ask(0, 1, 0, 1));
    }

    private static void ask() {
        Document.promise(37, "Asks for a loan of an exhibit");
        AvalancheGallery gallery = Checks.withExhibits(2, 9, 0);
        for (int loan = 1; loan <= 8; loan++) {
            int count = loan;
            Checks.due("loans afterwards", count, () -> gallery.ask(1, 99, 99, 99));
            Checks.due("of the other one", 0, () -> gallery.askedCount(0));
        }
        Checks.due("the same loan again is a loan, too", 99, () -> gallery.bestFees(1));
        Checks.due("the first of the other one", 1, () -> gallery.ask(0, 0, 0, 1));
        gallery.passDays(99);
        gallery.passDays(2);
        Checks.due("a loan of days that are past", 2, () -> gallery.ask(0, 0, 99, 7));
        Checks.due("it counts", 7, () -> gallery.takeBest(0));
        Checks.due("it is taken", true, () -> gallery.isLent(0, 99));
    }

    private static void takeBestRefused() {
        Document.promise(38, "Throws `IndexOutOfBoundsException`");
        Edges.exhibit(AvalancheGallery::takeBest);
        Document.promise(38, "Throws `IllegalStateException`");
        Edges.refused("none was ever asked for", Edges.STATE, Galleries.APART, g -> g.takeBest(0));
        Edges.refused("nor of the other one", Edges.STATE, Galleries.APART, g -> g.takeBest(1));
        Galleries.Recipe taken = () -> {
            AvalancheGallery gallery = Galleries.LADEN.make();
            gallery.takeBest(0);
            return gallery;
        };
        Edges.refused("the loans are taken", Edges.STATE, taken, g -> g.takeBest(0));
        Checks.due("but not those of the other one", 5, () -> taken.make().takeBest(1));
        AvalancheGallery gallery = withLoans(3, 4, 5);
        gallery.undo();
        Checks.state("undone", () -> gallery.takeBest(0));
    }

    private static void takeBest() {
        Document.promise(38, "Returns the fees that are received");
        Checks.due("one loan of the least fee", 1, () -> withLoans(0, 0, 1).takeBest(0));
        Checks.due("one loan of the greatest fee", 99, () -> withLoans(0, 99, 99).takeBest(0));
        AvalancheGallery most = withLoans(0, 0, 99, 1, 1, 99, 2, 2, 99, 3, 3, 99, 4, 4, 99, 5, 5, 99, 6, 6, 99,
                99, 99, 99);
        dueFees(most, 792);
        Document.promise(38, "Takes the best choice of loans of an exhibit");
        Checks.due("eight loans", 792, () -> most.takeBest(0));
        Checks.due("all are taken", 8, () -> most.takenCount(0));
        Checks.due("their days", "xxxxxxx" + ".".repeat(92) + "x", () -> lentDays(most, 100));
        AvalancheGallery met = withLoans(50, 50, 9);
        met.takeBest(0);
        askFor(met, 0, 99, 7);
        int changes = met.undoCount();
        Document.promise(38, "Returns the fees that are received");
        Checks.due("none of them can be taken", 0, () -> met.takeBest(0));
        Checks.due("which is a change", changes + 1, met::undoCount);
        Checks.due("and leaves no loan", 0, () -> met.askedCount(0));
        Checks.due("and takes none", 1, () -> met.takenCount(0));
        Checks.due("and brings nothing", 9, met::income);
    }

    private static void counts() {
        Document.promise(39, "Throws `IndexOutOfBoundsException`");
        Edges.exhibit(AvalancheGallery::askedCount);
        Document.promise(40, "Throws `IndexOutOfBoundsException`");
        Edges.exhibit(AvalancheGallery::takenCount);
        AvalancheGallery gallery = Checks.withExhibits(1, 9, 0);
        dueCounts(gallery, 0, 0);
        for (int loan = 1; loan <= 8; loan++) {
            gallery.ask(0, 10 * loan, 10 * loan, 1);
            dueCounts(gallery, loan, 0);
        }
        gallery.takeBest(0);
        dueCounts(gallery, 0, 8);
        gallery.ask(0, 0, 99, 99);
        dueCounts(gallery, 1, 8);
        gallery.takeBest(0);
        dueCounts(gallery, 0, 8);
        gallery.undo();
        dueCounts(gallery, 1, 8);
        gallery.undo();
        gallery.undo();
        dueCounts(gallery, 8, 0);
    }

    private static void dueCounts(AvalancheGallery gallery, int asked, int taken) {
        Document.promise(39, "Returns the number of loans of an exhibit that are asked for");
        Checks.due("asked for", asked, () -> gallery.askedCount(0));
        Document.promise(40, "Returns the number of loans of an exhibit that are taken");
        Checks.due("taken", taken, () -> gallery.takenCount(0));
    }

    private static void bestFees() {
        Document.promise(41, "Throws `IndexOutOfBoundsException`");
        Edges.exhibit(AvalancheGallery::bestFees);
        Document.promise(42, "Throws `IndexOutOfBoundsException`");
        Edges.exhibit(AvalancheGallery::bestFeesByTrials);
        Document.promise(41, "0 without a loan");
        Checks.due("never one", 0, () -> withLoans().bestFees(0));
        AvalancheGallery taken = withLoans(0, 99, 9);
        taken.takeBest(0);
        Checks.due("only taken ones", 0, () -> taken.bestFees(0));
        taken.undo();
        taken.undo();
        Checks.due("undone", 0, () -> taken.bestFees(0));
        dueFees(taken, 0);
        AvalancheGallery gallery = withLoans(3, 5, 7, 6, 6, 2);
        String before = Galleries.view(gallery) + gallery.undoCount();
        dueFees(gallery, 9);
        Checks.due("nothing is taken", before, () -> Galleries.view(gallery) + gallery.undoCount());
    }

    private static void isLent() {
        Document.promise(43, "Throws `IndexOutOfBoundsException`");
        Edges.exhibit((g, exhibit) -> g.isLent(exhibit, 0));
        Edges.refused("no exhibit on no day", Edges.INDEX, Galleries.LADEN, g -> g.isLent(2, -1));
        Document.promise(43, "Returns true if it is lent on it");
        AvalancheGallery gallery = withLoans(0, 99, 1);
        gallery.takeBest(0);
        for (int day : new int[] {0, 1, 50, 98, 99}) {
            Checks.due("lent on day " + day, true, () -> gallery.isLent(0, day));
        }
        for (int day : new int[] {-1, 100, 101, 127, 128, 255, 256, 65536, 1 << 30, -99, -100, Integer.MIN_VALUE,
            Integer.MIN_VALUE + 5, Integer.MAX_VALUE}) {
            Checks.due("not lent on day " + day, false, () -> gallery.isLent(0, day));
        }
        Document.promise(43, "Returns whether an exhibit is lent on a day");
        AvalancheGallery never = Checks.withExhibits(1, 9, 0);
        Checks.due("never", ".".repeat(100), () -> lentDays(never, 100));
        AvalancheGallery two = Checks.withExhibits(2, 9, 0);
        Galleries.takeLoan(two, 1, 0, 99, 1);
        Checks.due("not the other one", ".".repeat(100), () -> lentDays(two, 100));
        two.passDays(50);
        Checks.due("whatever day it is", true, () -> two.isLent(1, 0) && two.isLent(1, 99));
    }

    private static void income() {
        Document.promise(44, "Returns the fees that were received so far");
        AvalancheGallery gallery = Checks.withExhibits(5, 9, 0);
        int sum = 0;
        Checks.due("at first", sum, gallery::income);
        for (int exhibit = 0; exhibit < 5; exhibit++) {
            gallery.ask(exhibit, 0, 0, 90 + exhibit);
            int before = sum;
            Checks.due("only asked for", before, gallery::income);
            sum += gallery.takeBest(exhibit);
            int after = sum;
            Checks.due("received", after, gallery::income);
        }
        Document.promise(44, "Returns the sum of the fees");
        Checks.due("of all exhibits", 460, gallery::income);
        gallery.undo();
        Checks.due("undone", 366, gallery::income);
        gallery.save();
        gallery.takeBest(4);
        gallery.restore();
        Checks.due("restored", 366, gallery::income);
    }

    private static void mostLoans() {
        Document.term("at most 8 loans can be asked for");
        AvalancheGallery gallery = Checks.withExhibits(5, 9, 0);
        for (int exhibit = 0; exhibit < 5; exhibit++) {
            int index = exhibit;
            for (int loan = 1; loan <= 8; loan++) {
                int count = loan;
                Checks.due("loan " + loan, count, () -> gallery.ask(index, 10 * index, 10 * index + count, count));
            }
            Checks.state("a ninth", () -> gallery.ask(index, 0, 0, 1));
        }
        for (int round = 1; round <= 4; round++) {
            gallery.takeBest(2);
            for (int loan = 0; loan < 8; loan++) {
                gallery.ask(2, 8 * round + loan + 50, 8 * round + loan + 50, 1);
            }
            int taken = 8 * round - 7;
            Checks.due("taken ones are not asked for", 8, () -> gallery.askedCount(2));
            Checks.due("of taken ones there can be more", taken, () -> gallery.takenCount(2));
            Checks.state("a ninth again", () -> gallery.ask(2, 0, 0, 1));
        }
    }

    private static void daysOfLoans() {
        Document.term("A loan is on all days from the first one to the last one");
        int[] edges = {0, 1, 2, 49, 50, 97, 98, 99};
        for (int first : edges) {
            for (int last : edges) {
                if (first <= last) {
                    AvalancheGallery gallery = withLoans(first, last, 1);
                    gallery.takeBest(0);
                    String due = ".".repeat(first) + "x".repeat(last - first + 1) + ".".repeat(100 - last);
                    Checks.due("from " + first + " to " + last, due, () -> lentDays(gallery, 101));
                }
            }
        }
    }

    // Two loans that touch on one day, or that do not by one day, in either order and on either side.
    private static void choices() {
        Document.term("A choice is a set of loans that are asked for");
        for (int first = 0; first <= 9; first++) {
            for (int last = first; last <= 9; last++) {
                boolean apart = last < 4 || first > 6;
                int due = apart ? 12 : 7;
                dueFees(withLoans(4, 6, 7, first, last, 5), due);
                dueFees(withLoans(first, last, 5, 4, 6, 7), due);
                AvalancheGallery gallery = withLoans(first, last, 5, 4, 6, 7);
                Checks.due("taken", due, () -> gallery.takeBest(0));
                Checks.due("taken loans", apart ? 2 : 1, () -> gallery.takenCount(0));
            }
        }
        dueFees(withLoans(0, 0, 1, 99, 99, 1), 2);
        dueFees(withLoans(0, 99, 1, 99, 99, 2), 2);
        dueFees(withLoans(0, 99, 1, 0, 0, 2), 2);
        dueFees(withLoans(98, 98, 1, 99, 99, 2, 97, 97, 4), 7);
    }

    private static void besideTaken() {
        Document.term("and none is on a day of a loan that is taken");
        for (int first = 0; first <= 9; first++) {
            for (int last = first; last <= 9; last++) {
                boolean apart = last < 4 || first > 6;
                AvalancheGallery gallery = withLoans(4, 6, 7);
                gallery.takeBest(0);
                gallery.ask(0, first, last, 5);
                int due = apart ? 5 : 0;
                dueFees(gallery, due);
                Document.term("and none is on a day of a loan that is taken");
                Checks.due("taken", due, () -> gallery.takeBest(0));
                Checks.due("taken loans", apart ? 2 : 1, () -> gallery.takenCount(0));
                Checks.due("income", 7 + due, gallery::income);
            }
        }
        AvalancheGallery other = Checks.withExhibits(2, 9, 0);
        Galleries.takeLoan(other, 1, 0, 99, 9);
        other.ask(0, 4, 5, 6);
        dueFees(other, 6);
        AvalancheGallery past = withLoans(4, 6, 7);
        past.takeBest(0);
        past.passDays(20);
        askFor(past, 6, 6, 5);
        dueFees(past, 0);
    }

    /** Takes the best choice; the loans are on days 0 to 9. */
    private static void dueTaken(String days, int fees, int count, int... loans) {
        AvalancheGallery gallery = withLoans(loans);
        dueFees(gallery, fees);
        Document.term("The best choice has the greatest sum of fees");
        Checks.due("fees", fees, () -> gallery.takeBest(0));
        Checks.due("loans", count, () -> gallery.takenCount(0));
        Checks.due("days", days, () -> lentDays(gallery, 10));
    }

    private static void greatestFees() {
        dueTaken("xxx.......", 11, 1, 0, 2, 11, 0, 0, 5, 2, 2, 5);
        dueTaken("x.x.......", 11, 2, 0, 2, 10, 0, 0, 5, 2, 2, 6);
        dueTaken("x.x.......", 11, 2, 0, 0, 5, 2, 2, 6, 0, 2, 10);
        dueTaken(".x.x.x.x..", 4, 4, 1, 1, 1, 3, 3, 1, 5, 5, 1, 7, 7, 1, 0, 9, 3);
        dueTaken("xxxxxxxxxx", 5, 1, 1, 1, 1, 3, 3, 1, 5, 5, 1, 7, 7, 1, 0, 9, 5);
        dueTaken("xxxx.xxxx.", 8, 2, 3, 5, 7, 0, 3, 4, 5, 8, 4);
        dueTaken("...xxx....", 9, 1, 3, 5, 9, 0, 3, 4, 5, 8, 4);
        dueTaken("x.x.x.x.xx", 45, 5, 0, 1, 8, 0, 0, 9, 2, 2, 9, 2, 3, 8, 4, 4, 9, 6, 6, 9, 6, 9, 17, 8, 9, 9);
    }

    private static void fewestLoans() {
        dueTaken("xxx.......", 10, 1, 0, 0, 5, 2, 2, 5, 0, 2, 10);
        dueTaken("xxx.......", 10, 1, 0, 2, 10, 0, 0, 5, 2, 2, 5);
        dueTaken("x.x.......", 10, 2, 0, 0, 5, 2, 2, 5, 0, 2, 9);
        dueTaken("xxxx......", 9, 2, 0, 0, 3, 1, 1, 3, 2, 3, 3, 0, 1, 6);
        dueTaken("xxxxxxxxxx", 8, 1, 0, 0, 1, 1, 1, 1, 2, 2, 1, 3, 3, 1, 4, 4, 1, 5, 5, 1, 6, 6, 2, 0, 9, 8);
        dueTaken("xxxxxxx...", 9, 7, 0, 0, 1, 1, 1, 1, 2, 2, 1, 3, 3, 1, 4, 4, 1, 5, 5, 1, 6, 6, 3, 0, 9, 8);
    }

    private static void askedFirst() {
        dueTaken("xx........", 4, 1, 0, 1, 4, 1, 2, 4);
        dueTaken(".xx.......", 4, 1, 1, 2, 4, 0, 1, 4);
        dueTaken("xx........", 4, 1, 0, 1, 4, 0, 0, 4, 0, 1, 4, 0, 9, 4);
        // Sums and numbers are the same: the first loan decides, although the other two were asked for before its own.
        dueTaken("xxxxxxx...", 8, 2, 0, 3, 4, 0, 1, 4, 2, 5, 4, 4, 6, 4);
        dueTaken("x...xx....", 6, 2, 0, 0, 1, 0, 4, 3, 5, 9, 3, 4, 5, 5);
        dueTaken("xxxxxxxxxx", 6, 2, 0, 4, 3, 0, 0, 1, 5, 9, 3, 4, 5, 5);
        // The loan on day 9 is in both; those that only one of the two has decide, wherever it stands.
        dueTaken(".x.......x", 8, 2, 9, 9, 4, 1, 1, 4, 1, 2, 4);
        dueTaken(".xx......x", 8, 2, 1, 2, 4, 9, 9, 4, 1, 1, 4);
        dueTaken(".x.......x", 8, 2, 1, 1, 4, 1, 2, 4, 9, 9, 4);
        dueTaken("x.x.......", 6, 2, 0, 0, 2, 0, 1, 2, 2, 2, 4, 2, 3, 4);
        dueTaken("xxxx......", 6, 2, 0, 1, 2, 0, 0, 2, 2, 3, 4, 2, 2, 4);
        dueTaken("xxx.......", 6, 2, 0, 1, 2, 0, 0, 2, 2, 2, 4, 2, 3, 4);
    }

    /** The number of the choice that is best of all, found by comparing it with each other one as the terms say. */
    private static int bestOf(int[] loans) {
        int count = loans.length / 3;
        int best = 0;
        for (int choice = 1; choice < 1 << count; choice++) {
            if (isChoice(loans, choice) && isBetter(loans, choice, best)) {
                best = choice;
            }
        }
        return best;
    }

    private static boolean isChoice(int[] loans, int choice) {
        boolean[] lent = new boolean[10];
        for (int loan = 0; loan < loans.length / 3; loan++) {
            for (int day = loans[3 * loan]; (choice >> loan & 1) == 1 && day <= loans[3 * loan + 1]; day++) {
                if (lent[day]) {
                    return false;
                }
                lent[day] = true;
            }
        }
        return true;
    }

    private static boolean isBetter(int[] loans, int one, int other) {
        int fees = feesOf(loans, one) - feesOf(loans, other);
        int more = Integer.bitCount(one) - Integer.bitCount(other);
        for (int loan = 0; fees == 0 && more == 0; loan++) {
            boolean inOne = (one >> loan & 1) == 1;
            if (inOne != ((other >> loan & 1) == 1)) {
                return inOne;
            }
        }
        return fees > 0 || fees == 0 && more < 0;
    }

    private static int feesOf(int[] loans, int choice) {
        int fees = 0;
        for (int loan = 0; loan < loans.length / 3; loan++) {
            fees += (choice >> loan & 1) == 1 ? loans[3 * loan + 2] : 0;
        }
        return fees;
    }

    // Few days and small fees, so that most of these sets have several choices of the greatest sum.
    private static void allTies() {
        int seed = 7;
        for (int number = 0; number < 400; number++) {
            int[] loans = new int[3 * (1 + number % 8)];
            for (int at = 0; at < loans.length; at += 3) {
                seed = seed * 1103515245 + 12345;
                loans[at] = (seed >>> 16) % 9;
                loans[at + 1] = Math.min(9, loans[at] + (seed >>> 22) % 3);
                loans[at + 2] = 1 + (seed >>> 26) % 3;
            }
            int best = bestOf(loans);
            StringBuilder days = new StringBuilder("..........");
            for (int loan = 0; loan < loans.length / 3; loan++) {
                for (int day = loans[3 * loan]; (best >> loan & 1) == 1 && day <= loans[3 * loan + 1]; day++) {
                    days.setCharAt(day, 'x');
                }
            }
            dueTaken(days.toString(), feesOf(loans, best), Integer.bitCount(best), loans);
        }
    }

    private static void othersVanish() {
        Document.term("When the best choice is taken, its loans become taken");
        AvalancheGallery gallery = Checks.withExhibits(2, 9, 0);
        gallery.ask(1, 2, 3, 9);
        askFor(gallery, 0, 3, 4, 2, 6, 5, 6, 9, 4, 20, 21, 1);
        Checks.due("fees", 9, () -> gallery.takeBest(0));
        Checks.due("three become taken", 3, () -> gallery.takenCount(0));
        Checks.due("their days", "xxxx..xxxx..........xx..", () -> lentDays(gallery, 24));
        Checks.due("their fees are received", 9, gallery::income);
        Checks.due("the other one vanishes", 0, () -> gallery.askedCount(0));
        Checks.state("it cannot be taken any more", () -> gallery.takeBest(0));
        Checks.due("another exhibit keeps its own", 1, () -> gallery.askedCount(1));
        Checks.due("and has none taken", 0, () -> gallery.takenCount(1));
        askFor(gallery, 4, 5, 3);
        Checks.due("only the new one", 3, () -> gallery.takeBest(0));
        Checks.due("one more is taken", 4, () -> gallery.takenCount(0));
    }

    private static void lentOnlyWhenTaken() {
        Document.term("An exhibit is lent on a day of a loan that is taken");
        AvalancheGallery gallery = withLoans(0, 3, 4, 3, 5, 3);
        Checks.due("none is taken", "......", () -> lentDays(gallery, 6));
        Checks.due("nothing is lent", 0.0f, gallery::lentFraction);
        gallery.takeBest(0);
        Checks.due("one is taken", "xxxx..", () -> lentDays(gallery, 6));
        Checks.due("it is lent", 1.0f, gallery::lentFraction);
        gallery.undo();
        Checks.due("none is taken any more", "......", () -> lentDays(gallery, 6));
        gallery.takeBest(0);
        Galleries.takeLoan(gallery, 0, 5, 5, 9);
        Checks.due("two are taken", "xxxx.x", () -> lentDays(gallery, 6));
    }
}
