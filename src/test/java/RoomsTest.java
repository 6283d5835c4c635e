import java.util.stream.IntStream;

/** Promises 1 to 13: a new object, rooms, legs and ways. */
public final class RoomsTest {
    public static void main(String[] args) {
        newObject();
        addRoom();
        setWarmth();
        setLeg();
        removeLeg();
        legs();
        minutes();
        fewestLegs();
        smallestIndex();
        wayRoom();
        extremeArguments();
        Checks.finish("RoomsTest");
    }

    private static AvalancheGallery withRooms(int count) {
        return Checks.withRooms(IntStream.range(0, count).toArray());
    }

    private static void newObject() {
        AvalancheGallery gallery = new AvalancheGallery();
        Checks.due("1 roomCount", 0, gallery::roomCount);
        Checks.due("1 exhibitCount", 0, gallery::exhibitCount);
        Checks.due("1 day", 0, gallery::day);
        Checks.due("1 income", 0, gallery::income);
        Checks.due("1 undoCount", 0, gallery::undoCount);
        Checks.due("1 isConsistent", true, gallery::isConsistent);
        Checks.due("LENT", 1, () -> AvalancheGallery.LENT);
        Checks.due("NO_WAY", 2, () -> AvalancheGallery.NO_WAY);
    }

    private static void addRoom() {
        AvalancheGallery gallery = new AvalancheGallery();
        Checks.argument("2 addRoom(-1)", () -> gallery.addRoom(-1));
        Checks.argument("2 addRoom(10)", () -> gallery.addRoom(10));
        for (int room = 0; room < 6; room++) {
            int index = room;
            Checks.due("2 addRoom", index, () -> gallery.addRoom(index == 5 ? 9 : index));
            Checks.due("6 roomCount", index + 1, gallery::roomCount);
        }
        Checks.due("7 warmth(0)", 0, () -> gallery.warmth(0));
        Checks.due("7 warmth(5)", 9, () -> gallery.warmth(5));
        Checks.state("2 a seventh room", () -> gallery.addRoom(1));
        Checks.argument("2 argument before state", () -> gallery.addRoom(10));
        Checks.due("6 roomCount stays", 6, gallery::roomCount);
        Checks.missing("2 a new room has no legs", () -> gallery.minutes(4, 5));
    }

    private static void setWarmth() {
        AvalancheGallery gallery = withRooms(2);
        Checks.due("3 setWarmth", 1, () -> gallery.setWarmth(1, 9));
        Checks.due("3 setWarmth again", 9, () -> gallery.setWarmth(1, 0));
        Checks.due("7 warmth", 0, () -> gallery.warmth(1));
        Checks.due("7 warmth of the other", 0, () -> gallery.warmth(0));
        Checks.index("3 no room 2", () -> gallery.setWarmth(2, 5));
        Checks.index("3 no room -1", () -> gallery.setWarmth(-1, 5));
        Checks.index("3 index before argument", () -> gallery.setWarmth(2, 10));
        Checks.argument("3 warmth 10", () -> gallery.setWarmth(0, 10));
        Checks.argument("3 warmth -1", () -> gallery.setWarmth(0, -1));
        Checks.index("7 warmth of no room", () -> gallery.warmth(2));
        Checks.index("7 warmth of -1", () -> gallery.warmth(-1));
        Checks.due("3 nothing changed", 4, gallery::undoCount);
    }

    private static void setLeg() {
        AvalancheGallery gallery = withRooms(3);
        Checks.due("4 first leg", 1, () -> gallery.setLeg(0, 1, 1, 0));
        Checks.due("4 second leg", 2, () -> gallery.setLeg(2, 1, 99, 9));
        Checks.due("4 in place of a leg", 2, () -> gallery.setLeg(1, 0, 7, 3));
        Checks.due("8 legMinutes", 7, () -> gallery.legMinutes(0, 1));
        Checks.due("8 legMinutes back", 7, () -> gallery.legMinutes(1, 0));
        Checks.due("9 legWarmth", 3, () -> gallery.legWarmth(0, 1));
        Checks.due("9 legWarmth back", 9, () -> gallery.legWarmth(1, 2));
        Checks.due("8 legMinutes of the other", 99, () -> gallery.legMinutes(1, 2));
        Checks.index("4 no room 3", () -> gallery.setLeg(0, 3, 1, 1));
        Checks.index("4 no room -1", () -> gallery.setLeg(-1, 0, 1, 1));
        Checks.index("4 index before argument", () -> gallery.setLeg(3, 3, 0, 10));
        Checks.argument("4 the same room", () -> gallery.setLeg(1, 1, 5, 5));
        Checks.argument("4 minutes 0", () -> gallery.setLeg(0, 1, 0, 5));
        Checks.argument("4 minutes 100", () -> gallery.setLeg(0, 1, 100, 5));
        Checks.argument("4 warmth -1", () -> gallery.setLeg(0, 1, 5, -1));
        Checks.argument("4 warmth 10", () -> gallery.setLeg(0, 1, 5, 10));
        Checks.due("4 nothing changed", 7, () -> gallery.legMinutes(0, 1));
    }

    private static void removeLeg() {
        AvalancheGallery gallery = withRooms(3);
        gallery.setLeg(0, 1, 5, 1);
        gallery.setLeg(1, 2, 6, 2);
        Checks.missing("5 no leg", () -> gallery.removeLeg(0, 2));
        Checks.missing("5 the same room", () -> gallery.removeLeg(1, 1));
        Checks.index("5 no room 3", () -> gallery.removeLeg(0, 3));
        Checks.index("5 no room -1", () -> gallery.removeLeg(-1, 0));
        Checks.due("5 removeLeg", 1, () -> gallery.removeLeg(2, 1));
        Checks.missing("5 it is gone", () -> gallery.removeLeg(1, 2));
        Checks.missing("8 it is gone", () -> gallery.legMinutes(1, 2));
        Checks.due("5 removeLeg of the last", 0, () -> gallery.removeLeg(0, 1));
        Checks.due("4 a leg laid again", 1, () -> gallery.setLeg(1, 2, 8, 8));
    }

    private static void legs() {
        AvalancheGallery gallery = withRooms(3);
        gallery.setLeg(0, 1, 5, 0);
        Checks.missing("8 no leg", () -> gallery.legMinutes(0, 2));
        Checks.missing("8 the same room", () -> gallery.legMinutes(0, 0));
        Checks.index("8 no room 3", () -> gallery.legMinutes(3, 0));
        Checks.index("8 no room -1", () -> gallery.legMinutes(0, -1));
        Checks.missing("9 no leg", () -> gallery.legWarmth(0, 2));
        Checks.missing("9 the same room", () -> gallery.legWarmth(0, 0));
        Checks.index("9 no room 3", () -> gallery.legWarmth(0, 3));
        Checks.index("9 no room -1", () -> gallery.legWarmth(-1, 0));
        Checks.due("9 warmth 0", 0, () -> gallery.legWarmth(1, 0));
    }

    private static void dueWay(AvalancheGallery gallery, int from, int to, int minutes, String way) {
        String call = "(" + from + ", " + to + ")";
        Checks.due("10 minutes" + call, minutes, () -> gallery.minutes(from, to));
        Checks.due("11 minutesByTable" + call, minutes, () -> gallery.minutesByTable(from, to));
        Checks.due("12 wayLegs" + call, way.length() - 1, () -> gallery.wayLegs(from, to));
        for (int place = 0; place < way.length(); place++) {
            int at = place;
            Checks.due("13 wayRoom" + call + at, way.charAt(at) - '0', () -> gallery.wayRoom(from, to, at));
        }
        Checks.missing("13 behind the end" + call, () -> gallery.wayRoom(from, to, way.length()));
    }

    private static void dueNoWay(AvalancheGallery gallery, int from, int to) {
        Checks.missing("10 no way", () -> gallery.minutes(from, to));
        Checks.missing("11 no way", () -> gallery.minutesByTable(from, to));
        Checks.missing("12 no way", () -> gallery.wayLegs(from, to));
        Checks.missing("13 no way", () -> gallery.wayRoom(from, to, 0));
    }

    private static void dueNoRoom(AvalancheGallery gallery, int from, int to) {
        Checks.index("10 no room", () -> gallery.minutes(from, to));
        Checks.index("11 no room", () -> gallery.minutesByTable(from, to));
        Checks.index("12 no room", () -> gallery.wayLegs(from, to));
        Checks.index("13 no room", () -> gallery.wayRoom(from, to, 99));
    }

    private static void minutes() {
        AvalancheGallery gallery = withRooms(6);
        for (int room = 0; room < 4; room++) {
            gallery.setLeg(room, room + 1, 99, 0);
        }
        dueWay(gallery, 0, 4, 396, "01234");
        dueWay(gallery, 4, 1, 297, "4321");
        dueWay(gallery, 3, 3, 0, "3");
        dueNoWay(gallery, 0, 5);
        dueNoWay(gallery, 5, 0);
        dueWay(gallery, 5, 5, 0, "5");
        gallery.setLeg(0, 5, 1, 0);
        gallery.setLeg(5, 4, 2, 0);
        dueWay(gallery, 0, 4, 3, "054");
        dueWay(gallery, 1, 4, 102, "1054");
        dueNoRoom(gallery, 0, 6);
        dueNoRoom(gallery, 6, 0);
        dueNoRoom(gallery, -1, 0);
        dueNoRoom(gallery, 0, -1);
    }

    // The longer way has the smaller indices, so only its legs speak against it.
    private static void fewestLegs() {
        AvalancheGallery gallery = withRooms(5);
        gallery.setLeg(0, 1, 10, 0);
        gallery.setLeg(1, 2, 10, 0);
        gallery.setLeg(2, 3, 10, 0);
        gallery.setLeg(0, 4, 15, 0);
        gallery.setLeg(4, 3, 15, 0);
        dueWay(gallery, 0, 3, 30, "043");
        gallery.setLeg(0, 3, 30, 0);
        dueWay(gallery, 0, 3, 30, "03");
        gallery.setLeg(0, 3, 31, 0);
        dueWay(gallery, 0, 3, 30, "043");
    }

    // Forth and back differ, as the first room that differs is another one.
    private static void smallestIndex() {
        AvalancheGallery gallery = withRooms(6);
        gallery.setLeg(0, 1, 5, 0);
        gallery.setLeg(1, 4, 5, 0);
        gallery.setLeg(4, 5, 5, 0);
        gallery.setLeg(0, 2, 5, 0);
        gallery.setLeg(2, 3, 5, 0);
        gallery.setLeg(3, 5, 5, 0);
        dueWay(gallery, 0, 5, 15, "0145");
        dueWay(gallery, 5, 0, 15, "5320");
        gallery.setLeg(1, 3, 5, 0);
        dueWay(gallery, 0, 5, 15, "0135");
        dueWay(gallery, 5, 0, 15, "5310");
    }

    private static void wayRoom() {
        AvalancheGallery gallery = withRooms(2);
        gallery.setLeg(0, 1, 5, 0);
        Checks.missing("13 place -1", () -> gallery.wayRoom(0, 1, -1));
        Checks.missing("13 place 2", () -> gallery.wayRoom(0, 1, 2));
        Checks.missing("13 a great place", () -> gallery.wayRoom(0, 1, Integer.MAX_VALUE));
        Checks.due("13 the own room", 1, () -> gallery.wayRoom(1, 1, 0));
        Checks.missing("13 behind the own room", () -> gallery.wayRoom(1, 1, 1));
    }

    private static void extremeArguments() {
        AvalancheGallery gallery = withRooms(2);
        int least = Integer.MIN_VALUE;
        int most = Integer.MAX_VALUE;
        Checks.argument("2 least", () -> gallery.addRoom(least));
        Checks.argument("2 most", () -> gallery.addRoom(most));
        Checks.index("3 most", () -> gallery.setWarmth(most, 1));
        Checks.index("4 least", () -> gallery.setLeg(least, most, 1, 1));
        Checks.argument("4 most", () -> gallery.setLeg(0, 1, most, 1));
        Checks.index("5 least", () -> gallery.removeLeg(least, 0));
        Checks.index("7 least", () -> gallery.warmth(least));
        dueNoRoom(gallery, least, most);
        dueNoRoom(gallery, 0, most);
    }
}
