/** The edges of promises 45 to 52. */
final class OutputBounds {
    private static final String EMPTY = "0000/0000/0000/0000";

    private OutputBounds() {
    }

    static void run() {
        nothingRefused();
        latestReason();
        latestDetail();
        meanGrains();
        lentFraction();
        writePile();
        pileRows();
        writeWayRefused();
        writeWay();
        outputCharacter();
        replacedOutput();
        isConsistent();
    }

    private static void dueOutput(AvalancheGallery gallery, String output) {
        Document.promise(51, "Returns a character of the output");
        for (int index = 0; index < output.length(); index++) {
            int at = index;
            Checks.due("character " + at + " of " + output, output.charAt(at), () -> gallery.outputCharacter(at));
        }
        Document.promise(51, "Throws `IndexOutOfBoundsException`");
        Checks.index("one beyond " + output, () -> gallery.outputCharacter(output.length()));
        Checks.index("one before " + output, () -> gallery.outputCharacter(-1));
    }

    private static void nothingRefused() {
        Galleries.Recipe[] recipes = {Galleries.BARE, Galleries.APART, Galleries.FULL};
        for (Galleries.Recipe recipe : recipes) {
            Document.promise(45, "Throws `NoSuchElementException`");
            Edges.refused("no reason", Edges.MISSING, recipe, AvalancheGallery::refusalReason);
            Document.promise(46, "Throws `NoSuchElementException`");
            Edges.refused("no detail", Edges.MISSING, recipe, AvalancheGallery::refusalDetail);
        }
        AvalancheGallery gallery = Galleries.APART.make();
        Checks.index("no room", () -> gallery.send(0, 4));
        Checks.index("no exhibit", () -> gallery.send(2, 0));
        Checks.missing("no way in meltIfSent", () -> gallery.meltIfSent(0, 2));
        Checks.missing("no way in leastPassed", () -> gallery.leastPassed(0, 2));
        Checks.missing("no way in leastPassedByRounds", () -> gallery.leastPassedByRounds(0, 2));
        Checks.missing("no way in minutes", () -> gallery.minutes(0, 2));
        Checks.missing("no way in writeWay", () -> gallery.writeWay(0, 2));
        Checks.state("no loan", () -> gallery.takeBest(0));
        Checks.due("a way", 1, () -> gallery.send(0, 1));
        Document.promise(45, "Throws `NoSuchElementException`");
        Checks.missing("none of them is a refusal", gallery::refusalReason);
        Document.promise(46, "Throws `NoSuchElementException`");
        Checks.missing("none of them has a detail", gallery::refusalDetail);
    }

    private static void dueRefusal(AvalancheGallery gallery, int reason, int detail) {
        Document.promise(45, "Returns one of the constants");
        Checks.due("reason", reason, gallery::refusalReason);
        Document.promise(46, "Returns the detail.");
        Checks.due("detail", detail, gallery::refusalDetail);
    }

    private static void latestReason() {
        Document.promise(45, "Returns the reason of the latest refusal");
        AvalancheGallery gallery = Galleries.APART.make();
        Galleries.takeLoan(gallery, 0, 1, 7, 1);
        for (int round = 0; round < 3; round++) {
            Checks.refused("no way", () -> gallery.send(1, 0));
            dueRefusal(gallery, AvalancheGallery.NO_WAY, 2);
            dueRefusal(gallery, AvalancheGallery.NO_WAY, 2);
            Checks.refused("lent", () -> gallery.send(0, 1));
            dueRefusal(gallery, AvalancheGallery.LENT, 7);
        }
        gallery.passDays(7);
        Checks.due("sent", 1, () -> gallery.send(0, 1));
        Checks.index("no room", () -> gallery.send(0, 9));
        gallery.undo();
        gallery.save();
        gallery.restore();
        dueRefusal(gallery, AvalancheGallery.LENT, 7);
    }

    private static void latestDetail() {
        Document.promise(46, "Returns the detail of the latest refusal");
        for (int last = 0; last <= 99; last += 33) {
            AvalancheGallery gallery = Checks.withExhibits(1, 9, 0);
            Galleries.takeLoan(gallery, 0, 0, last, 1);
            Checks.refused("lent", () -> gallery.send(0, 0));
            dueRefusal(gallery, 1, last);
        }
        for (int room = 0; room < 6; room++) {
            AvalancheGallery gallery = Checks.withRooms(0, 0, 0, 0, 0, 0);
            gallery.addExhibit(room, 0);
            int to = room == 0 ? 5 : 0;
            Checks.refused("no way", () -> gallery.send(0, to));
            dueRefusal(gallery, 2, room);
        }
    }

    private static void meanGrains() {
        Document.promise(47, "Throws `ArithmeticException`");
        Edges.refused("nothing at all", Edges.ARITHMETIC, Galleries.BARE, AvalancheGallery::meanGrains);
        Edges.refused("only rooms", Edges.ARITHMETIC, Galleries.joined(6), AvalancheGallery::meanGrains);
        AvalancheGallery undone = Checks.withExhibits(1, 0, 0);
        Checks.due("one exhibit", 0.0, undone::meanGrains);
        undone.undo();
        Checks.arithmetic("undone", undone::meanGrains);
        Document.promise(47, "Returns the mean number of grains");
        for (int count = 1; count <= 5; count++) {
            int exhibits = count;
            AvalancheGallery gallery = Checks.withExhibits(count, 9, 0);
            Checks.due("none", 0.0, gallery::meanGrains);
            gallery.drop(count - 1, 3, 3, 1);
            Checks.due("one of the last", 1.0 / exhibits, gallery::meanGrains);
            gallery.drop(0, 0, 0, 3);
            Checks.due("three of the first", 4.0 / exhibits, gallery::meanGrains);
            gallery.drop(0, 1, 1, 39);
            int sum = 43 - gallery.spilled(0);
            Checks.due("what was not spilled", (double) sum / exhibits, gallery::meanGrains);
        }
        Checks.due("the most", 48.0, () -> Checks.withPile("3333/3333/3333/3333").meanGrains());
        AvalancheGallery melting = Checks.withPile("0000/0300/0000/0001");
        melting.setLimit(0, 7);
        melting.passDays(1);
        Document.promise(47, "Returns the mean.");
        Checks.due("what did not melt", 2.0, melting::meanGrains);
    }

    private static void lentFraction() {
        Document.promise(48, "Throws `ArithmeticException`");
        Edges.refused("nothing at all", Edges.ARITHMETIC, Galleries.BARE, AvalancheGallery::lentFraction);
        Edges.refused("only rooms", Edges.ARITHMETIC, Galleries.joined(6), AvalancheGallery::lentFraction);
        Document.promise(48, "Returns the fraction of exhibits");
        for (int count = 1; count <= 5; count++) {
            AvalancheGallery gallery = Checks.withExhibits(count, 9, 0);
            Checks.due("none", 0.0f, gallery::lentFraction);
            for (int exhibit = count - 1; exhibit >= 0; exhibit--) {
                Galleries.takeLoan(gallery, exhibit, 1, 2, 1);
                Checks.due("not on day 0", 0.0f, gallery::lentFraction);
            }
            dueFraction(gallery, 1, 1.0f);
            dueFraction(gallery, 1, 1.0f);
            dueFraction(gallery, 1, 0.0f);
        }
        Document.promise(48, "Returns the fraction.");
        AvalancheGallery gallery = Checks.withExhibits(5, 9, 0);
        for (int exhibit = 0; exhibit < 5; exhibit++) {
            float due = (float) exhibit / 5;
            Checks.due(exhibit + " of five", due, gallery::lentFraction);
            Galleries.takeLoan(gallery, exhibit, 0, 95 + exhibit, 1);
        }
        dueFraction(gallery, 95, 1.0f);
        for (int lent = 4; lent >= 0; lent--) {
            dueFraction(gallery, 1, (float) lent / 5);
        }
        dueFraction(gallery, 99, 0.0f);
    }

    private static void dueFraction(AvalancheGallery gallery, int days, float due) {
        gallery.passDays(days);
        Checks.due("on day " + gallery.day(), due, gallery::lentFraction);
    }

    private static void dueWritten(String rows) {
        AvalancheGallery gallery = Checks.withPile(rows);
        Document.promise(49, "Returns the length of the output");
        Checks.due("length", 19, () -> gallery.writePile(0));
        Document.promise(49, "for each y, in ascending order, the four numbers");
        Checks.due("written", rows, () -> Checks.outputOf(gallery, 19));
        dueOutput(gallery, rows);
    }

    private static void writePile() {
        Document.promise(49, "Throws `IndexOutOfBoundsException`");
        Edges.exhibit(AvalancheGallery::writePile);
        Document.promise(49, "Example");
        dueWritten("0120/3333/0000/1000");
        dueWritten(EMPTY);
        dueWritten("3333/3333/3333/3333");
        dueWritten("1230/0000/0000/0000");
        dueWritten("0000/0000/0000/0123");
    }

    private static void pileRows() {
        Document.promise(49, "for each y, in ascending order, the four numbers");
        for (int place = 0; place < 16; place++) {
            AvalancheGallery gallery = Checks.withExhibits(5, 9, 0);
            gallery.drop(4, place % 4, place / 4, 2);
            StringBuilder due = new StringBuilder(EMPTY);
            due.setCharAt(place / 4 * 5 + place % 4, '2');
            gallery.writePile(4);
            Checks.due("place " + place, due, () -> Checks.outputOf(gallery, 19));
            gallery.writePile(3);
            Checks.due("the one before", EMPTY, () -> Checks.outputOf(gallery, 19));
        }
    }

    private static void writeWayRefused() {
        Document.promise(50, "Throws `IndexOutOfBoundsException`");
        Edges.eitherRoom(AvalancheGallery::writeWay);
        Document.promise(50, "Throws `NoSuchElementException`");
        int[][] missing = {{0, 2}, {2, 0}, {1, 3}, {3, 1}, {2, 3}, {3, 2}};
        for (int[] pair : missing) {
            Edges.refused("no way", Edges.MISSING, Galleries.APART, g -> g.writeWay(pair[0], pair[1]));
        }
    }

    private static void dueWay(AvalancheGallery gallery, int from, int to, String way) {
        Document.promise(50, "Returns the length of the output");
        Checks.due("length of " + way, way.length(), () -> gallery.writeWay(from, to));
        Document.promise(50, "the indices of the rooms, with \">\" between two rooms");
        Checks.due("written", way, () -> Checks.outputOf(gallery, way.length()));
        dueOutput(gallery, way);
    }

    private static void writeWay() {
        AvalancheGallery gallery = Checks.withRooms(0, 0, 0, 0, 0, 0);
        for (int room = 0; room < 6; room++) {
            dueWay(gallery, room, room, room + "=0");
        }
        int[] minutes = {1, 9, 90, 99, 99};
        for (int room = 0; room < 5; room++) {
            gallery.setLeg(room, room + 1, minutes[room], 0);
        }
        dueWay(gallery, 0, 1, "0>1=1");
        dueWay(gallery, 1, 2, "1>2=9");
        dueWay(gallery, 0, 2, "0>1>2=10");
        dueWay(gallery, 1, 3, "1>2>3=99");
        dueWay(gallery, 0, 3, "0>1>2>3=100");
        dueWay(gallery, 5, 0, "5>4>3>2>1>0=298");
        gallery.setLeg(0, 1, 99, 0);
        gallery.setLeg(1, 2, 99, 0);
        gallery.setLeg(2, 3, 99, 0);
        dueWay(gallery, 0, 5, "0>1>2>3>4>5=495");
        gallery.setLeg(5, 1, 99, 9);
        dueWay(gallery, 5, 0, "5>1>0=198");
    }

    private static void outputCharacter() {
        Document.promise(51, "Throws `IndexOutOfBoundsException`");
        Edges.index(0, Galleries.BARE, AvalancheGallery::outputCharacter);
        Edges.index(6, Galleries.LADEN, AvalancheGallery::outputCharacter);
        Edges.index(6, Galleries.FULL, AvalancheGallery::outputCharacter);
        Edges.index(19, Galleries.APART, AvalancheGallery::outputCharacter);
        Document.promise(51, "which is empty at first");
        AvalancheGallery gallery = Checks.withExhibits(1, 0, 0, 0);
        dueOutput(gallery, "");
        Checks.index("no exhibit", () -> gallery.writePile(1));
        Checks.missing("no way", () -> gallery.writeWay(0, 1));
        Checks.feed(gallery, "day 1");
        gallery.execute();
        dueOutput(gallery, "");
        Document.promise(51, "Returns the character.");
        Checks.due("a row's end", '0', () -> gallery.outputCharacter(gallery.writePile(0) - 1));
    }

    // A shorter output leaves nothing of a longer one, and what is refused leaves the output as it was.
    private static void replacedOutput() {
        AvalancheGallery gallery = Checks.withExhibits(1, 9, 0, 0);
        String[] outputs = {EMPTY, "1=0", "3000/0000/0000/0000", "0=0", "0=0"};
        gallery.writePile(0);
        dueOutput(gallery, outputs[0]);
        Document.promise(50, "Writes the fastest way as the output, which replaces the previous one");
        gallery.writeWay(1, 1);
        dueOutput(gallery, outputs[1]);
        gallery.drop(0, 0, 0, 3);
        dueOutput(gallery, outputs[1]);
        Document.promise(49, "Writes a pile as the output, which replaces the previous one");
        gallery.writePile(0);
        dueOutput(gallery, outputs[2]);
        gallery.undo();
        Checks.missing("no way", () -> gallery.writeWay(0, 1));
        Checks.index("no room", () -> gallery.writeWay(0, 2));
        Checks.index("no exhibit", () -> gallery.writePile(-1));
        dueOutput(gallery, outputs[2]);
        gallery.writeWay(0, 0);
        dueOutput(gallery, outputs[3]);
    }

    // No run of calls makes a gallery inconsistent; so this looks at those at which a second method could go astray.
    private static void isConsistent() {
        Document.promise(52, "Checks by second methods whether the gallery is consistent");
        Galleries.Recipe[] recipes = {Galleries.BARE, Galleries.LADEN, Galleries.FULL, Galleries.APART,
            Galleries.joined(1), Galleries.exhibits(5)};
        for (Galleries.Recipe recipe : recipes) {
            AvalancheGallery gallery = recipe.make();
            String before = Galleries.view(gallery) + Edges.kept(gallery);
            Checks.due("consistent", true, gallery::isConsistent);
            Checks.due("it changes nothing", before, () -> Galleries.view(gallery) + Edges.kept(gallery));
        }
        Document.promise(52, "Returns true if it is consistent");
        AvalancheGallery gallery = Galleries.FULL.make();
        for (int step = 0; step < 8; step++) {
            gallery.drop(step % 5, step % 4, step / 2, 40);
            gallery.passDays(1 + step);
            Checks.answerOf(() -> gallery.send(2, 5));
            Checks.answerOf(() -> gallery.takeBest(3));
            Checks.due("on day " + gallery.day(), true, gallery::isConsistent);
        }
        gallery.undo();
        Checks.due("undone", true, gallery::isConsistent);
        gallery.restore();
        Checks.due("restored", true, gallery::isConsistent);
    }
}
