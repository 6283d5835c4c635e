/** The edges of promises 31 to 36 and of the terms of melting, couriers and days. */
final class CourierBounds {
    private static final String HIGHEST = "3333/3333/3333/3333";

    private CourierBounds() {
    }

    static void run() {
        limits();
        passing();
        meltingPlaces();
        meltingAtOnce();
        meltingEnds();
        courierOnEachLeg();
        sendIndices();
        sendToOwnRoom();
        refusedWhileLent();
        refusedWithoutWay();
        refusalOrder();
        refusalsAreKept();
        meltIfSent();
        leastPassedRefused();
        leastPassed();
        passDays();
        days();
        daysOfLoans();
    }

    /** An exhibit with a full pile in room 0; rooms in a row that are joined by legs of these warmths. */
    private static AvalancheGallery row(int limit, int... warmths) {
        AvalancheGallery gallery = Checks.withPile(HIGHEST);
        gallery.setLimit(0, limit);
        gallery.setWarmth(0, 0);
        for (int leg = 0; leg < warmths.length; leg++) {
            if (leg + 1 >= gallery.roomCount()) {
                gallery.addRoom(0);
            }
            gallery.setLeg(leg, leg + 1, 20, warmths[leg]);
        }
        return gallery;
    }

    /** An exhibit whose rows are the words of the text, on which one day melts as many grains. */
    private static AvalancheGallery melting(String rows, int number) {
        AvalancheGallery gallery = Checks.withPile(rows);
        gallery.setLimit(0, 9 - number);
        return gallery;
    }

    private static void limits() {
        Document.term("The case of an exhibit has a limit from 0 to 9");
        AvalancheGallery gallery = Checks.withExhibits(1, 9, 0);
        for (int limit = 0; limit <= 9; limit++) {
            int due = limit;
            Checks.due("set", due, () -> {
                gallery.setLimit(0, due);
                return gallery.limit(0);
            });
            Checks.due("added", due, () -> Checks.withExhibits(1, due, 0).limit(0));
        }
        for (int limit : new int[] {-1, 10}) {
            Checks.argument("set " + limit, () -> gallery.setLimit(0, limit));
            Checks.argument("added " + limit, () -> gallery.addExhibit(0, limit));
        }
        Checks.due("the last one stays", 9, () -> gallery.limit(0));
        Checks.due("none is added", 1, gallery::exhibitCount);
    }

    private static void passing() {
        Document.term("A warmth that is greater than the limit passes it by the difference");
        for (int warmth = 0; warmth <= 9; warmth++) {
            for (int limit = 0; limit <= 9; limit++) {
                int due = warmth > limit ? warmth - limit : 0;
                String what = "warmth " + warmth + ", limit " + limit;
                AvalancheGallery room = row(limit);
                room.setWarmth(0, warmth);
                Checks.due(what + " of a room", due, () -> room.passDays(1));
                AvalancheGallery leg = row(limit, warmth);
                Checks.due(what + " in leastPassed", due, () -> leg.leastPassed(0, 1));
                Checks.due(what + " in leastPassedByRounds", due, () -> leg.leastPassedByRounds(0, 1));
                Checks.due(what + " in meltIfSent", due, () -> leg.meltIfSent(0, 1));
                Checks.due(what + " of a leg", due, () -> leg.send(0, 1));
                Checks.due(what + " melted", due, () -> leg.melted(0));
            }
        }
    }

    private static String rowsWith(int one, int other, int grains) {
        StringBuilder rows = new StringBuilder();
        for (int place = 0; place < 16; place++) {
            rows.append(place > 0 && place % 4 == 0 ? "/" : "").append(place == one || place == other ? grains : 0);
        }
        return rows.toString();
    }

    // In each pair of places with the most grains the one with the smaller y melts first, then that with the smaller x.
    private static void meltingPlaces() {
        Document.term("each in the place with the most grains then; of several");
        for (int one = 0; one < 16; one++) {
            for (int other = one + 1; other < 16; other++) {
                AvalancheGallery gallery = melting(rowsWith(one, other, 1), 1);
                gallery.passDays(1);
                Checks.due("the first melts", rowsWith(other, other, 1), () -> Checks.pileOf(gallery, 0));
            }
        }
        dueMelted("1111/1111/1111/1112", 1, "1111/1111/1111/1111");
        dueMelted("1111/1111/1111/1113", 1, "1111/1111/1111/1112");
        dueMelted("2222/2222/2222/2223", 2, "1222/2222/2222/2222");
        dueMelted("0001/1000/0000/0000", 1, "0000/1000/0000/0000");
        dueMelted("1002/2000/0000/0003", 3, "1001/1000/0000/0002");
    }

    private static void dueMelted(String rows, int number, String due) {
        AvalancheGallery atOnce = melting(rows, number);
        Checks.due("grains of " + rows, number, () -> atOnce.passDays(1));
        Checks.due("pile of " + rows, due, () -> Checks.pileOf(atOnce, 0));
        AvalancheGallery oneByOne = melting(rows, 1);
        Checks.due("grains one by one", number, () -> oneByOne.passDays(number));
        Checks.due("pile one by one", due, () -> Checks.pileOf(oneByOne, 0));
        AvalancheGallery onLegs = melting(rows, number);
        onLegs.setLeg(0, 1, 1, 9);
        Checks.due("grains on a leg", number, () -> onLegs.send(0, 1));
        Checks.due("pile on a leg", due, () -> Checks.pileOf(onLegs, 0));
    }

    private static void meltingAtOnce() {
        Document.term("as many grains melt, one after the other");
        dueMelted(HIGHEST, 9, "2222/2222/2333/3333");
        dueMelted("2222/2222/2333/3333", 9, "1122/2222/2222/2222");
        dueMelted("3000/0000/0000/0003", 5, "0000/0000/0000/0001");
        dueMelted("0120/3333/0000/1000", 4, "0120/2222/0000/1000");
        dueMelted("0120/3333/0000/1000", 5, "0110/2222/0000/1000");
        dueMelted("0120/3333/0000/1000", 6, "0110/1222/0000/1000");
    }

    private static void meltingEnds() {
        Document.term("If there are no grains, nothing melts any more");
        String[] rows = {"3330/0000/0000/0000", "3320/0000/0000/0000", "3331/0000/0000/0000", "0000/0000/0000/0001",
            "0000/0000/0000/0000"};
        int[] grains = {9, 8, 10, 1, 0};
        for (int pile = 0; pile < rows.length; pile++) {
            int due = Math.min(9, grains[pile]);
            int rest = grains[pile] - due;
            AvalancheGallery gallery = melting(rows[pile], 9);
            gallery.setLeg(0, 1, 1, 9);
            Checks.due("would melt", due, () -> gallery.meltIfSent(0, 1));
            Checks.due("melt", due, () -> gallery.passDays(1));
            Checks.due("remain", rest, () -> gallery.grains(0));
            Checks.due("the rest melts", rest, () -> gallery.send(0, 1));
            Checks.due("nothing any more", 0, () -> gallery.send(0, 0) + gallery.passDays(99) + gallery.send(0, 0));
            Checks.due("empty", "0000/0000/0000/0000", () -> Checks.pileOf(gallery, 0));
            Checks.due("melted", due + rest, () -> gallery.melted(0));
        }
    }

    // A leg that is cooler than the limit makes up for no other one.
    private static void courierOnEachLeg() {
        Document.term("A courier takes an exhibit along the fastest way to another room");
        Checks.due("all at the limit", 0, () -> row(5, 5, 5, 5, 5, 5).send(0, 5));
        Checks.due("all one above it", 5, () -> row(4, 5, 5, 5, 5, 5).send(0, 5));
        Checks.due("all far above it", 45, () -> row(0, 9, 9, 9, 9, 9).send(0, 5));
        Checks.due("none is made up for", 4, () -> row(5, 9, 0, 1).send(0, 3));
        Checks.due("the last leg, too", 1, () -> row(5, 0, 0, 6).send(0, 3));
        Checks.due("no leg beyond it", 0, () -> row(5, 0, 0, 6).send(0, 2));
        AvalancheGallery gallery = row(0, 1, 1);
        gallery.setLeg(0, 2, 41, 0);
        Checks.due("the fastest of 40, not the coolest of 41", 2, () -> gallery.meltIfSent(0, 2));
        gallery.setLeg(0, 2, 40, 0);
        Checks.due("as fast with fewer legs", 0, () -> gallery.meltIfSent(0, 2));
        Checks.due("sent", 0, () -> gallery.send(0, 2));
        Checks.due("it is there", 2, () -> gallery.roomOf(0));
        Checks.due("back over the next room", 1, () -> gallery.send(0, 1));
        AvalancheGallery other = row(0, 9, 9, 9, 9, 9);
        other.send(0, 5);
        Checks.due("what 45 grains leave", "0000/0000/0000/0111", () -> Checks.pileOf(other, 0));
        Checks.due("no more than there are", 3, () -> other.send(0, 0));
    }

    private interface Journey {
        Object on(AvalancheGallery gallery, int exhibit, int to);
    }

    private static void dueIndices(int promise, Journey journey) {
        Document.promise(promise, "Throws `IndexOutOfBoundsException`");
        Edges.exhibit((g, exhibit) -> journey.on(g, exhibit, 0));
        Edges.index(3, Galleries.LADEN, (g, room) -> journey.on(g, 1, room));
        Edges.index(6, Galleries.FULL, (g, room) -> journey.on(g, 4, room));
        Edges.refused("neither", Edges.INDEX, Galleries.LADEN, g -> journey.on(g, 2, 3));
        Edges.refused("no exhibit in a room", Edges.INDEX, Galleries.joined(1), g -> journey.on(g, 0, 0));
    }

    private static void sendIndices() {
        dueIndices(31, AvalancheGallery::send);
        dueIndices(32, AvalancheGallery::meltIfSent);
        dueIndices(33, AvalancheGallery::leastPassed);
        dueIndices(34, AvalancheGallery::leastPassedByRounds);
    }

    private static void sendToOwnRoom() {
        Document.promise(31, "the way to its own room has no legs, so that nothing melts");
        AvalancheGallery gallery = row(0, 9, 9);
        gallery.setWarmth(0, 9);
        gallery.setLeg(0, 1, 1, 9);
        int changes = gallery.undoCount();
        Checks.due("would melt", 0, () -> gallery.meltIfSent(0, 0));
        Checks.due("melt", 0, () -> gallery.send(0, 0));
        Checks.due("all stay", HIGHEST, () -> Checks.pileOf(gallery, 0));
        Checks.due("it stays", 0, () -> gallery.roomOf(0));
        Checks.due("a change, as it succeeds", Math.min(8, changes + 1), gallery::undoCount);
        Checks.missing("no refusal", gallery::refusalReason);
        Checks.due("without any leg", 0, () -> Checks.withExhibits(1, 0, 9).send(0, 0));
    }

    /** An exhibit with two loans one after the other and a later one; room 2 has no way. */
    private static AvalancheGallery lent() {
        AvalancheGallery gallery = Checks.withExhibits(1, 9, 0, 0, 0);
        gallery.setLeg(0, 1, 5, 0);
        gallery.ask(0, 2, 3, 1);
        gallery.ask(0, 4, 4, 1);
        gallery.ask(0, 99, 99, 1);
        gallery.takeBest(0);
        return gallery;
    }

    private static void dueLent(AvalancheGallery gallery, int detail) {
        Checks.refused("lent on day " + gallery.day(), () -> gallery.send(0, 1));
        Checks.due("LENT", 1, gallery::refusalReason);
        Checks.due("the last day of this loan", detail, gallery::refusalDetail);
    }

    private static void refusedWhileLent() {
        Document.term("It is refused for the first of these reasons that applies");
        AvalancheGallery gallery = lent();
        gallery.passDays(1);
        Checks.due("the day before the first one", 0, () -> gallery.send(0, 0));
        gallery.passDays(1);
        dueLent(gallery, 3);
        gallery.passDays(1);
        dueLent(gallery, 3);
        gallery.passDays(1);
        dueLent(gallery, 4);
        gallery.passDays(1);
        Checks.due("the day after the last one", 0, () -> gallery.send(0, 0));
        gallery.passDays(93);
        Checks.due("on day 98", 0, () -> gallery.send(0, 0));
        gallery.passDays(1);
        dueLent(gallery, 99);
        gallery.passDays(1);
        Checks.due("on day 100", 0, () -> gallery.send(0, 0));
        AvalancheGallery first = lent();
        Galleries.takeLoan(first, 0, 0, 0, 1);
        dueLent(first, 0);
        first.undo();
        Checks.due("only asked for", 0, () -> first.send(0, 1));
        AvalancheGallery whole = Checks.withExhibits(2, 9, 0, 0);
        Galleries.takeLoan(whole, 0, 0, 99, 1);
        dueLent(whole, 99);
        Checks.refused("the other one is not lent", () -> whole.send(1, 1));
        Checks.due("NO_WAY", 2, whole::refusalReason);
    }

    private static void refusedWithoutWay() {
        Document.term("Reason for a refusal: there is no way to the room");
        Checks.due("NO_WAY", 2, () -> AvalancheGallery.NO_WAY);
        int[][] refused = {{0, 2, 0}, {0, 3, 0}, {1, 0, 2}, {1, 3, 2}};
        for (int[] journey : refused) {
            AvalancheGallery gallery = Galleries.APART.make();
            Checks.refused("no way", () -> gallery.send(journey[0], journey[1]));
            Checks.due("NO_WAY", AvalancheGallery.NO_WAY, gallery::refusalReason);
            Checks.due("the room of the exhibit", journey[2], gallery::refusalDetail);
        }
        AvalancheGallery gallery = row(9, 0, 0, 0, 0, 0);
        gallery.send(0, 5);
        gallery.removeLeg(0, 1);
        Checks.due("as far as it goes", 0, () -> gallery.send(0, 1));
        Checks.refused("no further", () -> gallery.send(0, 0));
        Checks.due("the room where it is", 1, gallery::refusalDetail);
        Document.term("Reason for a refusal: the exhibit is lent on the present day");
        Checks.due("LENT", 1, () -> AvalancheGallery.LENT);
    }

    private static void refusalOrder() {
        Document.term("If several conditions for exceptions hold, the one that is listed first decides");
        AvalancheGallery gallery = lent();
        gallery.passDays(2);
        Checks.index("no room before lent", () -> gallery.send(0, 3));
        Checks.index("no exhibit before no way", () -> gallery.send(1, 2));
        Checks.missing("neither is a refusal", gallery::refusalReason);
        Checks.missing("nor has it a detail", gallery::refusalDetail);
        Checks.refused("lent and no way", () -> gallery.send(0, 2));
        Checks.due("lent decides", AvalancheGallery.LENT, gallery::refusalReason);
        Checks.due("with its detail", 3, gallery::refusalDetail);
        Checks.refused("lent, to its own room", () -> gallery.send(0, 0));
        gallery.passDays(3);
        Checks.refused("no way alone", () -> gallery.send(0, 2));
        Checks.due("no way decides", AvalancheGallery.NO_WAY, gallery::refusalReason);
        Checks.due("with the room", 0, gallery::refusalDetail);
    }

    // The same refusal once more leaves what is kept of it, so that nothing at all may change.
    private static void refusalsAreKept() {
        Document.promise(31, "Throws `UnsupportedOperationException`");
        Galleries.Recipe lent = () -> {
            AvalancheGallery gallery = Galleries.LADEN.make();
            Galleries.takeLoan(gallery, 0, 2, 12, 99);
            Checks.answerOf(() -> gallery.send(0, 1));
            return gallery;
        };
        Edges.refused("lent", Edges.REFUSED, lent, g -> g.send(0, 1));
        Edges.refused("lent, to its own room", Edges.REFUSED, lent, g -> g.send(0, 0));
        Checks.due("LENT", 1, () -> lent.make().refusalReason());
        Checks.due("until day 12", 12, () -> lent.make().refusalDetail());
        Galleries.Recipe away = () -> {
            AvalancheGallery gallery = Galleries.APART.make();
            Checks.answerOf(() -> gallery.send(1, 3));
            return gallery;
        };
        Edges.refused("no way", Edges.REFUSED, away, g -> g.send(1, 3));
        Edges.refused("no way to another one", Edges.REFUSED, away, g -> g.send(1, 0));
        Checks.due("NO_WAY", 2, () -> away.make().refusalReason());
        Checks.due("from room 2", 2, () -> away.make().refusalDetail());
    }

    private static void dueNoWay(int promise, Journey journey) {
        Document.promise(promise, "Throws `NoSuchElementException`");
        int[][] missing = {{0, 2}, {0, 3}, {1, 0}, {1, 1}, {1, 3}};
        for (int[] one : missing) {
            Edges.refused("no way", Edges.MISSING, Galleries.APART, g -> journey.on(g, one[0], one[1]));
        }
        Checks.due("a way of five legs", 0, () -> journey.on(row(9, 9, 9, 9, 9, 9), 0, 5));
        Checks.due("to its own room", 0, () -> journey.on(Galleries.APART.make(), 1, 2));
        AvalancheGallery gallery = row(0, 9, 9, 9, 9, 9);
        gallery.removeLeg(5, 4);
        Checks.missing("no way any more", () -> journey.on(gallery, 0, 5));
        Checks.due("but to the room before", 36, () -> journey.on(gallery, 0, 4));
    }

    private static void meltIfSent() {
        dueNoWay(32, AvalancheGallery::meltIfSent);
        Document.promise(32, "whether it is lent or not");
        AvalancheGallery gallery = row(0, 9, 9);
        String before = Galleries.view(gallery) + gallery.undoCount();
        Checks.due("not lent", 18, () -> gallery.meltIfSent(0, 2));
        Checks.due("nothing melts", before, () -> Galleries.view(gallery) + gallery.undoCount());
        Galleries.takeLoan(gallery, 0, 0, 99, 1);
        Checks.due("lent", 18, () -> gallery.meltIfSent(0, 2));
        Checks.due("lent, to its own room", 0, () -> gallery.meltIfSent(0, 0));
        Checks.missing("no refusal", gallery::refusalReason);
        AvalancheGallery few = row(0, 9, 9, 9, 9, 9);
        few.send(0, 5);
        Checks.due("three grains are left", 3, () -> few.meltIfSent(0, 4));
        few.setLimit(0, 6);
        Checks.due("three would melt", 3, () -> few.meltIfSent(0, 4));
        few.setLimit(0, 7);
        Checks.due("two would melt", 2, () -> few.meltIfSent(0, 4));
    }

    private static void leastPassedRefused() {
        dueNoWay(33, AvalancheGallery::leastPassed);
        dueNoWay(34, AvalancheGallery::leastPassedByRounds);
    }

    private static void dueLeast(AvalancheGallery gallery, int to, int sum) {
        Document.promise(33, "settling the nearest room again and again");
        Checks.due("leastPassed", sum, () -> gallery.leastPassed(0, to));
        Document.promise(34, "Returns the same as leastPassed");
        Checks.due("leastPassedByRounds", sum, () -> gallery.leastPassedByRounds(0, to));
    }

    private static void leastPassed() {
        dueLeast(row(0, 9, 9, 9, 9, 9), 5, 45);
        dueLeast(row(9, 9, 9, 9, 9, 9), 5, 0);
        dueLeast(row(8, 9, 9, 9, 9, 9), 5, 5);
        dueLeast(row(0, 0, 0, 0, 0, 0), 5, 0);
        dueLeast(row(0, 9), 0, 0);
        AvalancheGallery gallery = row(0, 1, 1, 1, 1, 1);
        gallery.setLeg(0, 5, 1, 6);
        dueLeast(gallery, 5, 5);
        gallery.setLeg(0, 5, 1, 4);
        dueLeast(gallery, 5, 4);
        dueLeast(gallery, 4, 4);
        dueLeast(gallery, 3, 3);
        gallery.setLeg(0, 5, 99, 0);
        dueLeast(gallery, 3, 2);
        gallery.setLimit(0, 1);
        dueLeast(gallery, 3, 0);
        AvalancheGallery empty = row(0, 9, 9, 9, 9, 9);
        empty.send(0, 5);
        empty.send(0, 0);
        Checks.due("no grains are left", 0, () -> empty.grains(0));
        dueLeast(empty, 5, 45);
        Galleries.takeLoan(empty, 0, 0, 99, 1);
        dueLeast(empty, 4, 36);
        empty.passDays(99);
        empty.passDays(1);
        empty.send(0, 5);
        dueLeast(empty, 5, 0);
        dueLeast(empty, 0, 45);
    }

    private static void passDays() {
        Document.promise(35, "Throws `IllegalArgumentException`");
        Edges.range(Edges.ARGUMENT, 1, 99, Galleries.BARE, AvalancheGallery::passDays);
        Edges.range(Edges.ARGUMENT, 1, 99, Galleries.LADEN, AvalancheGallery::passDays);
        Document.promise(35, "Lets days pass");
        AvalancheGallery gallery = new AvalancheGallery();
        int day = 0;
        for (int days : new int[] {1, 99, 2, 98, 99}) {
            day += days;
            Checks.due("without exhibits", 0, () -> gallery.passDays(days));
            Checks.due("the day", day, gallery::day);
        }
        Document.promise(35, "that melt");
        AvalancheGallery melting = Checks.withExhibits(5, 8, 9);
        for (int exhibit = 0; exhibit < 5; exhibit++) {
            melting.drop(exhibit, 0, 3, 3);
        }
        Checks.due("one of each", 5, () -> melting.passDays(1));
        Checks.due("two of each", 10, () -> melting.passDays(99));
        Checks.due("none is left", 0, () -> melting.passDays(99));
        Document.promise(36, "Returns the number of the present day");
        Checks.due("day", 199, melting::day);
        melting.undo();
        Checks.due("undone", 100, melting::day);
        Checks.argument("no day passes", () -> melting.passDays(100));
        Checks.argument("nor here", () -> melting.passDays(0));
        Checks.due("refused", 100, melting::day);
    }

    private static void days() {
        Document.term("The present day has a number, at first 0");
        AvalancheGallery gallery = new AvalancheGallery();
        Checks.due("at first", 0, gallery::day);
        gallery.passDays(1);
        Checks.due("then", 1, gallery::day);
        gallery.save();
        gallery.passDays(99);
        gallery.restore();
        Checks.due("restored", 1, gallery::day);
    }

    /** An exhibit that melts by 1 on each day on which it is not lent. */
    private static AvalancheGallery lentFrom(int first, int last) {
        AvalancheGallery gallery = melting(HIGHEST, 1);
        Galleries.takeLoan(gallery, 0, first, last, 1);
        return gallery;
    }

    private static void daysOfLoans() {
        Document.term("When a day passes, each exhibit that is not lent on it melts");
        int[][] cases = {{0, 0, 1, 0}, {0, 0, 2, 1}, {1, 1, 1, 1}, {1, 1, 2, 1}, {1, 1, 3, 2}, {0, 4, 5, 0},
            {0, 4, 6, 1}, {2, 4, 2, 2}, {2, 4, 5, 2}, {2, 4, 6, 3}};
        for (int[] one : cases) {
            String what = one[2] + " days with a loan from " + one[0] + " to " + one[1];
            Checks.due(what, one[3], () -> lentFrom(one[0], one[1]).passDays(one[2]));
            AvalancheGallery single = lentFrom(one[0], one[1]);
            int sum = 0;
            for (int day = 0; day < one[2]; day++) {
                sum += single.passDays(1);
            }
            int melted = sum;
            Checks.due(what + ", one by one", one[3], () -> melted);
        }
        AvalancheGallery whole = lentFrom(0, 99);
        Checks.due("days 0 to 98", 0, () -> whole.passDays(99));
        Checks.due("day 99", 0, () -> whole.passDays(1));
        Checks.due("day 100", 1, () -> whole.passDays(1));
        AvalancheGallery first = lentFrom(0, 0);
        first.setLimit(0, 9);
        first.passDays(99);
        first.passDays(99);
        first.passDays(57);
        first.setLimit(0, 8);
        Checks.due("days 255 and 256 are no days of loans", 2, () -> first.passDays(2));
        AvalancheGallery two = Checks.withExhibits(2, 8, 9);
        two.drop(0, 0, 0, 3);
        two.drop(1, 0, 0, 3);
        Galleries.takeLoan(two, 0, 0, 0, 1);
        Checks.due("the other one melts", 1, () -> two.passDays(1));
        Checks.due("the lent one does not", 3, () -> two.grains(0));
        Checks.due("both melt", 2, () -> two.passDays(1));
    }
}
