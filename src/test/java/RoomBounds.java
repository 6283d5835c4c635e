/** The edges of promises 1 to 13 and of the terms of rooms and ways. */
final class RoomBounds {
    private static final int[] OTHER_NUMBERS = {-1, 0, 1, Integer.MIN_VALUE, Integer.MAX_VALUE};

    private RoomBounds() {
    }

    static void run() {
        newObject();
        addRoom();
        setWarmth();
        setLeg();
        setLegRefused();
        removeLeg();
        readings();
        legReadings();
        minutes();
        wayLegs();
        wayRoom();
        roomTerms();
        legTerms();
        wayTerms();
        tiesOfMinutes();
        tiesOfLegs();
        ownRoom();
    }

    private static AvalancheGallery rooms(int count) {
        return Checks.withRooms(new int[count]);
    }

    private static void newObject() {
        Document.promise(1, "without rooms and exhibits on day 0");
        AvalancheGallery gallery = new AvalancheGallery();
        Checks.due("roomCount", 0, gallery::roomCount);
        Checks.due("exhibitCount", 0, gallery::exhibitCount);
        Checks.due("day", 0, gallery::day);
        Checks.due("income", 0, gallery::income);
        Checks.due("undoCount", 0, gallery::undoCount);
        Checks.due("isConsistent", true, gallery::isConsistent);
        for (int number : OTHER_NUMBERS) {
            Checks.index("warmth", () -> gallery.warmth(number));
            Checks.index("minutes", () -> gallery.minutes(number, number));
            Checks.index("grains", () -> gallery.grains(number));
            Checks.index("send", () -> gallery.send(number, number));
            Checks.index("outputCharacter", () -> gallery.outputCharacter(number));
        }
        Checks.due("another object", 0, () -> {
            new AvalancheGallery().addRoom(5);
            return new AvalancheGallery().roomCount();
        });
    }

    private static void addRoom() {
        Document.promise(2, "Throws `IllegalArgumentException`");
        Edges.range(Edges.ARGUMENT, 0, 9, Galleries.BARE, AvalancheGallery::addRoom);
        Edges.range(Edges.ARGUMENT, 0, 9, Galleries.LADEN, AvalancheGallery::addRoom);
        Document.promise(2, "Throws `IllegalStateException`");
        for (int count = 0; count < 6; count++) {
            int index = count;
            Checks.due("room after " + count, index, () -> rooms(index).addRoom(9 - index));
        }
        Edges.refused("a seventh room of warmth 0", Edges.STATE, Galleries.FULL, g -> g.addRoom(0));
        Edges.refused("a seventh room of warmth 9", Edges.STATE, Galleries.FULL, g -> g.addRoom(9));
        AvalancheGallery undone = rooms(6);
        undone.undo();
        Checks.due("again the sixth room", 5, () -> undone.addRoom(4));
        Checks.state("again a seventh room", () -> undone.addRoom(4));
        Document.promise(2, "without legs");
        AvalancheGallery gallery = Galleries.joined(5).make();
        gallery.addRoom(1);
        dueNoLegsOf(gallery, 5);
        gallery.setLeg(5, 0, 1, 1);
        gallery.undo();
        gallery.undo();
        gallery.addRoom(2);
        dueNoLegsOf(gallery, 5);
    }

    private static void dueNoLegsOf(AvalancheGallery gallery, int room) {
        for (int other = 0; other < gallery.roomCount(); other++) {
            int to = other;
            Checks.missing("leg of the new room", () -> gallery.legMinutes(room, to));
            Checks.missing("leg to the new room", () -> gallery.legWarmth(to, room));
        }
        Checks.missing("way to the new room", () -> gallery.minutes(0, room));
        Checks.missing("way from the new room", () -> gallery.minutesByTable(room, 0));
    }

    private static void setWarmth() {
        Document.promise(3, "Throws `IndexOutOfBoundsException`");
        Edges.index(0, Galleries.BARE, (g, room) -> g.setWarmth(room, 5));
        Edges.index(3, Galleries.LADEN, (g, room) -> g.setWarmth(room, 5));
        Edges.index(6, Galleries.FULL, (g, room) -> g.setWarmth(room, 5));
        Document.promise(3, "Throws `IllegalArgumentException`");
        Edges.range(Edges.ARGUMENT, 0, 9, Galleries.LADEN, (g, warmth) -> g.setWarmth(0, warmth));
        Edges.range(Edges.ARGUMENT, 0, 9, Galleries.FULL, (g, warmth) -> g.setWarmth(5, warmth));
        Document.promise(3, "Sets the warmth of a room");
        AvalancheGallery gallery = Checks.withRooms(1, 2, 3, 4, 5, 6);
        Checks.due("previous", 1, () -> gallery.setWarmth(0, 9));
        Checks.due("previous", 6, () -> gallery.setWarmth(5, 0));
        int[] due = {9, 2, 3, 4, 5, 0};
        for (int room = 0; room < 6; room++) {
            int index = room;
            Checks.due("warmth of " + room, due[room], () -> gallery.warmth(index));
        }
        Document.promise(3, "Returns the previous warmth");
        Checks.due("0 before", 0, () -> gallery.setWarmth(5, 0));
        Checks.due("9 before", 9, () -> gallery.setWarmth(0, 9));
        Checks.due("9 before again", 9, () -> gallery.setWarmth(0, 8));
        Checks.due("8 before", 8, () -> gallery.setWarmth(0, 8));
    }

    private static void setLeg() {
        Document.promise(4, "in place of a leg that joins them");
        AvalancheGallery gallery = rooms(6);
        int legs = 0;
        for (int one = 0; one < 6; one++) {
            for (int other = one + 1; other < 6; other++) {
                int from = one;
                int to = other;
                legs++;
                Checks.due("a further leg", legs, () -> gallery.setLeg(from, to, 99, 9));
                Checks.due("in its place", legs, () -> gallery.setLeg(from, to, 98, 8));
                Checks.due("in its place, the other way round", legs, () -> gallery.setLeg(to, from, 1, 0));
                Checks.due("minutes of the latest", 1, () -> gallery.legMinutes(from, to));
                Checks.due("warmth of the latest", 0, () -> gallery.legWarmth(from, to));
            }
        }
        Checks.due("fifteen of six rooms", 14, () -> gallery.removeLeg(4, 5));
    }

    private static void setLegRefused() {
        Document.promise(4, "Throws `IndexOutOfBoundsException`");
        Edges.eitherRoom((g, one, other) -> g.setLeg(one, other, 5, 5));
        Document.promise(4, "Throws `IllegalArgumentException`");
        for (int room = 0; room < 6; room++) {
            int same = room;
            Edges.refused("both are " + room, Edges.ARGUMENT, Galleries.FULL, g -> g.setLeg(same, same, 5, 5));
        }
        Edges.refused("the only room", Edges.ARGUMENT, Galleries.joined(1), g -> g.setLeg(0, 0, 5, 5));
        Edges.range(Edges.ARGUMENT, 1, 99, Galleries.LADEN, (g, minutes) -> g.setLeg(0, 1, minutes, 5));
        Edges.range(Edges.ARGUMENT, 0, 9, Galleries.LADEN, (g, warmth) -> g.setLeg(2, 1, 5, warmth));
        Edges.range(Edges.ARGUMENT, 1, 99, Galleries.APART, (g, minutes) -> g.setLeg(0, 3, minutes, 0));
        Edges.range(Edges.ARGUMENT, 0, 9, Galleries.APART, (g, warmth) -> g.setLeg(2, 3, 99, warmth));
    }

    private static void removeLeg() {
        Document.promise(5, "Throws `IndexOutOfBoundsException`");
        Edges.eitherRoom(AvalancheGallery::removeLeg);
        Document.promise(5, "Throws `NoSuchElementException`");
        dueMissingLegs(AvalancheGallery::removeLeg);
        Document.promise(5, "Removes a leg");
        AvalancheGallery gallery = Galleries.joined(6).make();
        int legs = 15;
        for (int one = 0; one < 6; one++) {
            for (int other = one + 1; other < 6; other++) {
                int from = one;
                int to = other;
                legs--;
                Checks.due("legs that remain", legs, () -> gallery.removeLeg(to, from));
                Checks.missing("it is gone", () -> gallery.removeLeg(from, to));
                Checks.missing("nor the other way round", () -> gallery.removeLeg(to, from));
            }
        }
        Checks.due("the first one again", 1, () -> gallery.setLeg(0, 5, 1, 0));
        Checks.due("none remains", 0, () -> gallery.removeLeg(0, 5));
    }

    // A leg of one minute and of warmth 0 is a leg, too.
    private static void dueMissingLegs(Edges.ActOnPair act) {
        int[][] without = {{0, 2}, {2, 0}, {1, 3}, {2, 3}, {3, 2}, {0, 0}, {2, 2}, {3, 3}};
        for (int[] pair : without) {
            String what = "no leg from " + pair[0] + " to " + pair[1];
            Edges.refused(what, Edges.MISSING, Galleries.APART, g -> act.on(g, pair[0], pair[1]));
        }
        Edges.refused("from a room to itself", Edges.MISSING, Galleries.FULL, g -> act.on(g, 5, 5));
        String answer = Checks.answerOf(() -> act.on(row(2, 1), 1, 0));
        Checks.due("a leg: " + answer, false, () -> answer.startsWith("throws"));
        AvalancheGallery undone = row(2, 1);
        undone.undo();
        Checks.missing("no leg after undo", () -> act.on(undone, 1, 0));
    }

    private static void readings() {
        Document.promise(6, "Returns the number of rooms");
        for (int count = 0; count <= 6; count++) {
            int rooms = count;
            Checks.due("roomCount", rooms, () -> rooms(rooms).roomCount());
        }
        Document.promise(7, "Throws `IndexOutOfBoundsException`");
        Edges.index(0, Galleries.BARE, AvalancheGallery::warmth);
        Edges.index(3, Galleries.LADEN, AvalancheGallery::warmth);
        Edges.index(6, Galleries.FULL, AvalancheGallery::warmth);
        Document.promise(7, "Returns the warmth of a room");
        for (int warmth = 0; warmth <= 9; warmth++) {
            int due = warmth;
            Checks.due("of the first", due, () -> Checks.withRooms(due, 5).warmth(0));
            Checks.due("of the last", due, () -> Checks.withRooms(5, 5, 5, 5, 5, due).warmth(5));
        }
    }

    private static void legReadings() {
        Document.promise(8, "Throws `IndexOutOfBoundsException`");
        Edges.eitherRoom(AvalancheGallery::legMinutes);
        Document.promise(8, "Throws `NoSuchElementException`");
        dueMissingLegs(AvalancheGallery::legMinutes);
        Document.promise(9, "Throws `IndexOutOfBoundsException`");
        Edges.eitherRoom(AvalancheGallery::legWarmth);
        Document.promise(9, "Throws `NoSuchElementException`");
        dueMissingLegs(AvalancheGallery::legWarmth);
        AvalancheGallery gallery = rooms(6);
        gallery.setLeg(5, 0, 99, 0);
        gallery.setLeg(4, 5, 1, 9);
        Document.promise(8, "Returns the minutes of a leg");
        Checks.due("most", 99, () -> gallery.legMinutes(5, 0));
        Checks.due("most, back", 99, () -> gallery.legMinutes(0, 5));
        Checks.due("least", 1, () -> gallery.legMinutes(4, 5));
        Document.promise(9, "Returns the warmth of a leg");
        Checks.due("least", 0, () -> gallery.legWarmth(5, 0));
        Checks.due("most", 9, () -> gallery.legWarmth(4, 5));
        Checks.due("most, back", 9, () -> gallery.legWarmth(5, 4));
    }

    /** Rooms in a row, with legs of as many minutes. */
    private static AvalancheGallery row(int rooms, int minutes) {
        AvalancheGallery gallery = rooms(rooms);
        for (int room = 1; room < rooms; room++) {
            gallery.setLeg(room - 1, room, minutes, 0);
        }
        return gallery;
    }

    private static void dueNoWay(Edges.ActOnPair act) {
        int[][] without = {{0, 2}, {2, 0}, {1, 3}, {3, 1}, {2, 3}, {3, 2}};
        for (int[] pair : without) {
            String what = "no way from " + pair[0] + " to " + pair[1];
            Edges.refused(what, Edges.MISSING, Galleries.APART, g -> act.on(g, pair[0], pair[1]));
        }
        AvalancheGallery gallery = row(6, 99);
        String answer = Checks.answerOf(() -> act.on(gallery, 0, 5));
        Checks.due("a way of five legs: " + answer, false, () -> answer.startsWith("throws"));
        gallery.removeLeg(2, 3);
        Checks.missing("no way any more", () -> act.on(gallery, 0, 5));
        Checks.missing("nor back", () -> act.on(gallery, 3, 2));
        Checks.due("but before it", false, () -> Checks.answerOf(() -> act.on(gallery, 2, 0)).startsWith("throws"));
        Checks.due("and to itself", false, () -> Checks.answerOf(() -> act.on(gallery, 3, 3)).startsWith("throws"));
    }

    private static void minutes() {
        Document.promise(10, "Throws `IndexOutOfBoundsException`");
        Edges.eitherRoom(AvalancheGallery::minutes);
        Document.promise(10, "Throws `NoSuchElementException`");
        dueNoWay(AvalancheGallery::minutes);
        Document.promise(11, "Throws `IndexOutOfBoundsException`");
        Edges.eitherRoom(AvalancheGallery::minutesByTable);
        Document.promise(11, "Throws `NoSuchElementException`");
        dueNoWay(AvalancheGallery::minutesByTable);
        Document.promise(10, "0 from a room to itself");
        dueZeroToItself(AvalancheGallery::minutes);
        Document.promise(11, "Returns the same as minutes");
        dueZeroToItself(AvalancheGallery::minutesByTable);
        Document.promise(10, "settling the nearest room");
        dueMinutes(AvalancheGallery::minutes);
        Document.promise(11, "with a table of all pairs");
        dueMinutes(AvalancheGallery::minutesByTable);
    }

    private static void dueZeroToItself(Edges.ActOnPair act) {
        for (int room = 0; room < 6; room++) {
            int same = room;
            Checks.due("without legs", 0, () -> act.on(rooms(6), same, same));
            Checks.due("with all legs", 0, () -> act.on(Galleries.joined(6).make(), same, same));
            Checks.due("with legs of a minute", 0, () -> act.on(row(6, 1), same, same));
        }
        Checks.due("the only room", 0, () -> act.on(rooms(1), 0, 0));
    }

    private static void dueMinutes(Edges.ActOnPair act) {
        Checks.due("the most", 495, () -> act.on(row(6, 99), 0, 5));
        Checks.due("the most, back", 495, () -> act.on(row(6, 99), 5, 0));
        Checks.due("the least", 1, () -> act.on(row(2, 1), 1, 0));
        AvalancheGallery gallery = row(6, 19);
        gallery.setLeg(0, 5, 96, 0);
        Checks.due("five legs of 95 against one of 96", 95, () -> act.on(gallery, 0, 5));
        gallery.setLeg(0, 5, 95, 0);
        Checks.due("of 95", 95, () -> act.on(gallery, 5, 0));
        gallery.setLeg(0, 5, 94, 0);
        Checks.due("of 94", 94, () -> act.on(gallery, 0, 5));
        Checks.due("not over that leg", 76, () -> act.on(gallery, 1, 5));
        Checks.due("as far both ways", 57, () -> act.on(gallery, 1, 4));
        for (int middle = 0; middle < 6; middle++) {
            dueOver(act, middle);
        }
    }

    // All other rooms are joined with one alone; whichever it is, the ways lead over it.
    private static void dueOver(Edges.ActOnPair act, int middle) {
        AvalancheGallery gallery = rooms(6);
        for (int room = 0; room < 6; room++) {
            if (room != middle) {
                gallery.setLeg(middle, room, 10 + room, 0);
            }
        }
        for (int one = 0; one < 6; one++) {
            for (int other = 0; other < 6; other++) {
                int from = one;
                int to = other;
                int due = one == other ? 0 : (one == middle ? 0 : 10 + one) + (other == middle ? 0 : 10 + other);
                Checks.due(one + " to " + other + " over " + middle, due, () -> act.on(gallery, from, to));
            }
        }
    }

    private static void wayLegs() {
        Document.promise(12, "Throws `IndexOutOfBoundsException`");
        Edges.eitherRoom(AvalancheGallery::wayLegs);
        Document.promise(12, "Throws `NoSuchElementException`");
        dueNoWay(AvalancheGallery::wayLegs);
        Document.promise(12, "Returns the number of legs of the fastest way");
        for (int to = 0; to < 6; to++) {
            int legs = to;
            Checks.due("legs to " + to, legs, () -> row(6, 99).wayLegs(0, legs));
            Checks.due("legs from " + to, 5 - legs, () -> row(6, 1).wayLegs(5, legs));
        }
    }

    private static void wayRoom() {
        Document.promise(13, "Throws `IndexOutOfBoundsException`");
        Edges.eitherRoom((g, from, to) -> g.wayRoom(from, to, 0));
        Document.promise(13, "Throws `NoSuchElementException`");
        dueNoWay((g, from, to) -> g.wayRoom(from, to, 0));
        for (int to = 0; to < 6; to++) {
            int last = to;
            Edges.range(Edges.MISSING, 0, last, () -> row(6, 7), (g, place) -> g.wayRoom(0, last, place));
        }
        Edges.range(Edges.MISSING, 0, 0, Galleries.FULL, (g, place) -> g.wayRoom(3, 3, place));
        Edges.range(Edges.MISSING, 0, 0, Galleries.APART, (g, place) -> g.wayRoom(3, 3, place));
        Document.promise(13, "Returns a room of the fastest way");
        for (int place = 0; place < 6; place++) {
            int at = place;
            Checks.due("forth", at, () -> row(6, 7).wayRoom(0, 5, at));
            Checks.due("back", 5 - at, () -> row(6, 7).wayRoom(5, 0, at));
        }
    }

    private static void roomTerms() {
        Document.term("There are at most 6 rooms");
        AvalancheGallery gallery = new AvalancheGallery();
        for (int room = 0; room < 6; room++) {
            int index = room;
            Checks.due("room " + room, index, () -> gallery.addRoom(9 - index));
        }
        Checks.state("a seventh", () -> gallery.addRoom(3));
        for (int room = 0; room < 6; room++) {
            int index = room;
            Checks.due("in their order", 9 - index, () -> gallery.warmth(index));
        }
        Checks.index("no index 6", () -> gallery.warmth(6));
        Document.term("A room has a warmth from 0 to 9");
        for (int warmth = 0; warmth <= 9; warmth++) {
            int due = warmth;
            Checks.due("set", due, () -> {
                gallery.setWarmth(3, due);
                return gallery.warmth(3);
            });
        }
        Checks.argument("-1", () -> gallery.setWarmth(3, -1));
        Checks.argument("10", () -> gallery.setWarmth(3, 10));
        Checks.due("9 stays", 9, () -> gallery.warmth(3));
        Document.term("Each exhibit is in a room");
        Edges.refused("without rooms", Edges.INDEX, Galleries.BARE, g -> g.addExhibit(0, 0));
        gallery.addExhibit(0, 0);
        gallery.addExhibit(5, 0);
        Checks.due("in the first", 0, () -> gallery.roomOf(0));
        Checks.due("in the last", 5, () -> gallery.roomOf(1));
    }

    private static void legTerms() {
        Document.term("at most one leg joins the same two rooms");
        AvalancheGallery gallery = rooms(2);
        Checks.due("one leg", 1, () -> gallery.setLeg(0, 1, 1, 2));
        Checks.due("still one", 1, () -> gallery.setLeg(1, 0, 3, 4));
        Checks.argument("a room to itself", () -> gallery.setLeg(1, 1, 3, 4));
        Checks.due("the latest", 3, () -> gallery.legMinutes(0, 1));
        Checks.due("none remains", 0, () -> gallery.removeLeg(0, 1));
        Checks.missing("no second one below it", () -> gallery.removeLeg(0, 1));
        Document.term("It has minutes from 1 to 99");
        for (int[] leg : new int[][] {{1, 0}, {99, 9}, {1, 9}, {99, 0}}) {
            gallery.setLeg(0, 1, leg[0], leg[1]);
            Checks.due("minutes", leg[0], () -> gallery.legMinutes(1, 0));
            Checks.due("warmth", leg[1], () -> gallery.legWarmth(1, 0));
        }
        for (int[] leg : new int[][] {{0, 5}, {100, 5}, {5, -1}, {5, 10}}) {
            Checks.argument(leg[0] + " minutes, warmth " + leg[1], () -> gallery.setLeg(0, 1, leg[0], leg[1]));
        }
    }

    private static void dueWay(AvalancheGallery gallery, int from, int to, int minutes, String way) {
        String what = "way from " + from + " to " + to;
        Checks.due(what + " in minutes", minutes, () -> gallery.minutes(from, to));
        Checks.due(what + " by table", minutes, () -> gallery.minutesByTable(from, to));
        Checks.due(what + " in legs", way.length() - 1, () -> gallery.wayLegs(from, to));
        StringBuilder rooms = new StringBuilder();
        for (int place = 0; place < way.length(); place++) {
            int at = place;
            rooms.append(Checks.answerOf(() -> gallery.wayRoom(from, to, at)));
        }
        Checks.due(what, way, rooms::toString);
        Checks.missing(what + " goes no further", () -> gallery.wayRoom(from, to, way.length()));
    }

    private static void wayTerms() {
        Document.term("A way from one room to another one is a row of rooms");
        AvalancheGallery gallery = rooms(6);
        gallery.setLeg(4, 2, 9, 0);
        gallery.setLeg(2, 5, 9, 0);
        gallery.setLeg(5, 0, 9, 0);
        dueWay(gallery, 4, 0, 27, "4250");
        dueWay(gallery, 0, 4, 27, "0524");
        dueWay(gallery, 2, 4, 9, "24");
        Checks.missing("no leg leads on", () -> gallery.wayLegs(4, 1));
        Checks.missing("no leg leads there", () -> gallery.wayLegs(3, 0));
    }

    // Each way differs from the fastest one by one minute, one leg or one room.
    private static void tiesOfMinutes() {
        Document.term("The fastest way has the smallest sum of minutes");
        AvalancheGallery gallery = row(6, 10);
        gallery.setLeg(0, 5, 51, 0);
        dueWay(gallery, 0, 5, 50, "012345");
        gallery.setLeg(0, 5, 50, 0);
        dueWay(gallery, 0, 5, 50, "05");
        gallery.setLeg(0, 5, 49, 0);
        dueWay(gallery, 0, 5, 49, "05");
        gallery.removeLeg(0, 5);
        gallery.setLeg(0, 2, 21, 0);
        dueWay(gallery, 0, 5, 50, "012345");
        gallery.setLeg(0, 2, 20, 0);
        dueWay(gallery, 0, 5, 50, "02345");
        dueWay(gallery, 5, 0, 50, "54320");
        gallery.setLeg(3, 5, 20, 0);
        dueWay(gallery, 0, 5, 50, "0235");
    }

    private static void tiesOfLegs() {
        Document.term("the one whose first room that differs has the smaller index");
        AvalancheGallery gallery = rooms(6);
        gallery.setLeg(0, 3, 9, 0);
        gallery.setLeg(3, 5, 9, 0);
        gallery.setLeg(0, 4, 9, 0);
        gallery.setLeg(4, 5, 9, 0);
        dueWay(gallery, 0, 5, 18, "035");
        dueWay(gallery, 5, 0, 18, "530");
        dueWay(gallery, 3, 4, 18, "304");
        dueWay(gallery, 4, 3, 18, "403");
        gallery.setLeg(0, 1, 9, 0);
        gallery.setLeg(1, 2, 5, 0);
        gallery.setLeg(2, 5, 4, 0);
        dueWay(gallery, 0, 5, 18, "035");
        gallery.setLeg(1, 5, 9, 0);
        dueWay(gallery, 0, 5, 18, "015");
        gallery.setLeg(0, 1, 10, 0);
        dueWay(gallery, 0, 5, 18, "035");
        // The first room that differs decides, not the last one: 1 before 2, though 4 stands behind it.
        AvalancheGallery other = rooms(6);
        other.setLeg(0, 1, 9, 0);
        other.setLeg(1, 4, 9, 0);
        other.setLeg(4, 5, 9, 0);
        other.setLeg(0, 2, 9, 0);
        other.setLeg(2, 3, 9, 0);
        other.setLeg(3, 5, 9, 0);
        dueWay(other, 0, 5, 27, "0145");
        dueWay(other, 5, 0, 27, "5320");
    }

    private static void ownRoom() {
        Document.term("From a room to itself the way is this room alone");
        for (int room = 0; room < 6; room++) {
            int own = room;
            AvalancheGallery gallery = row(6, 1);
            dueWay(gallery, own, own, 0, String.valueOf(own));
            Checks.due("written", 3, () -> gallery.writeWay(own, own));
            Checks.due("as an output", own + "=0", () -> Checks.outputOf(gallery, 3));
            dueWay(rooms(6), own, own, 0, String.valueOf(own));
        }
    }
}
