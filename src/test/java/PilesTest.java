/** Promises 14 to 30: exhibits, topplings, lasting piles, slopes and what became of the grains. */
public final class PilesTest {
    public static void main(String[] args) {
        addExhibit();
        setLimit();
        drop();
        dropRefused();
        topplingsIf();
        grainsAt();
        accounts();
        lasting();
        slopes();
        noExhibit();
        Checks.finish("PilesTest");
    }

    private static AvalancheGallery withExhibits(int count) {
        return Checks.withExhibits(count, 5, 9, 0);
    }

    private static void addExhibit() {
        AvalancheGallery gallery = withExhibits(0);
        Checks.index("14 no room 2", () -> gallery.addExhibit(2, 0));
        Checks.index("14 no room -1", () -> gallery.addExhibit(-1, 0));
        Checks.index("14 index before argument", () -> gallery.addExhibit(2, 10));
        Checks.argument("14 limit -1", () -> gallery.addExhibit(0, -1));
        Checks.argument("14 limit 10", () -> gallery.addExhibit(0, 10));
        for (int exhibit = 0; exhibit < 5; exhibit++) {
            int index = exhibit;
            Checks.due("14 addExhibit", index, () -> gallery.addExhibit(index % 2, index == 4 ? 9 : index));
            Checks.due("19 exhibitCount", index + 1, gallery::exhibitCount);
        }
        Checks.due("20 roomOf(0)", 0, () -> gallery.roomOf(0));
        Checks.due("20 roomOf(3)", 1, () -> gallery.roomOf(3));
        Checks.due("21 limit(3)", 3, () -> gallery.limit(3));
        Checks.due("21 limit(4)", 9, () -> gallery.limit(4));
        Checks.due("14 without grains", 0, () -> gallery.grains(4));
        Checks.state("14 a sixth exhibit", () -> gallery.addExhibit(0, 0));
        Checks.argument("14 argument before state", () -> gallery.addExhibit(0, 10));
        Checks.index("14 index before state", () -> gallery.addExhibit(2, 0));
        Checks.due("19 exhibitCount stays", 5, gallery::exhibitCount);
    }

    private static void setLimit() {
        AvalancheGallery gallery = withExhibits(2);
        Checks.due("15 setLimit", 5, () -> gallery.setLimit(1, 0));
        Checks.due("15 setLimit again", 0, () -> gallery.setLimit(1, 9));
        Checks.due("21 limit", 9, () -> gallery.limit(1));
        Checks.due("21 limit of the other", 5, () -> gallery.limit(0));
        Checks.index("15 no exhibit 2", () -> gallery.setLimit(2, 10));
        Checks.index("15 no exhibit -1", () -> gallery.setLimit(-1, 1));
        Checks.argument("15 limit 10", () -> gallery.setLimit(0, 10));
        Checks.argument("15 limit -1", () -> gallery.setLimit(0, -1));
        Checks.due("15 nothing changed", 5, () -> gallery.limit(0));
    }

    private static void drop() {
        AvalancheGallery gallery = withExhibits(2);
        Checks.due("16 without a toppling", 0, () -> gallery.drop(0, 3, 0, 3));
        Checks.due("16 pile", "0003/0000/0000/0000", () -> Checks.pileOf(gallery, 0));
        Checks.due("16 one toppling", 1, () -> gallery.drop(0, 3, 0, 1));
        Checks.due("16 it spills", "0010/0001/0000/0000", () -> Checks.pileOf(gallery, 0));
        Checks.due("29 spilled", 2, () -> gallery.spilled(0));
        Checks.due("16 inside nothing spills", 1, () -> gallery.drop(1, 1, 2, 5));
        Checks.due("16 the rest stays", "0000/0100/1110/0100", () -> Checks.pileOf(gallery, 1));
        Checks.due("29 nothing spilled", 0, () -> gallery.spilled(1));
        Checks.due("16 most grains", 29, () -> withExhibits(1).drop(0, 1, 1, 40));
    }

    private static void dropRefused() {
        AvalancheGallery gallery = withExhibits(1);
        Checks.index("16 no exhibit 1", () -> gallery.drop(1, 0, 0, 1));
        Checks.index("16 index before argument", () -> gallery.drop(-1, 4, 4, 0));
        int[][] wrong = {{-1, 0, 1}, {4, 0, 1}, {0, -1, 1}, {0, 4, 1}, {0, 0, 0}, {0, 0, -1}, {0, 0, 41}};
        for (int[] one : wrong) {
            Checks.argument("16 wrong", () -> gallery.drop(0, one[0], one[1], one[2]));
            Checks.argument("17 wrong", () -> gallery.topplingsIf(0, one[0], one[1], one[2]));
            Checks.argument("18 wrong", () -> gallery.topplingsIfByRounds(0, one[0], one[1], one[2]));
        }
        Checks.index("17 index before argument", () -> gallery.topplingsIf(1, 4, 4, 0));
        Checks.index("18 index before argument", () -> gallery.topplingsIfByRounds(1, 4, 4, 0));
        Checks.due("16 nothing changed", 0, () -> gallery.grains(0));
        Checks.due("16 no change", 3, gallery::undoCount);
    }

    private static void topplingsIf() {
        AvalancheGallery gallery = Checks.withPile("3333/3333/3333/3333");
        int changes = gallery.undoCount();
        for (int place = 0; place < 16; place++) {
            int x = place % 4;
            int y = place / 4;
            for (int grains = 1; grains <= 40; grains += 13) {
                int number = grains;
                int byPlaces = gallery.topplingsIf(0, x, y, number);
                Checks.due("18 as 17", byPlaces, () -> gallery.topplingsIfByRounds(0, x, y, number));
            }
        }
        Checks.due("17 in a place with room", 0, () -> Checks.withPile("0333/3333/3333/3333").topplingsIf(0, 0, 0, 3));
        Checks.due("17 nothing dropped", 48, () -> gallery.grains(0));
        Checks.due("17 the pile stays", "3333/3333/3333/3333", () -> Checks.pileOf(gallery, 0));
        Checks.due("17 no change", changes, gallery::undoCount);
        int due = gallery.topplingsIf(0, 2, 1, 40);
        Checks.due("16 as 17", due, () -> gallery.drop(0, 2, 1, 40));
        Checks.due("17 three grains", 0, () -> withExhibits(1).topplingsIf(0, 0, 0, 3));
        Checks.due("18 three grains", 0, () -> withExhibits(1).topplingsIfByRounds(0, 0, 0, 3));
        Checks.due("17 eight grains", 2, () -> withExhibits(1).topplingsIf(0, 0, 0, 8));
        Checks.due("18 eight grains", 2, () -> withExhibits(1).topplingsIfByRounds(0, 0, 0, 8));
        Checks.due("17 a row", 2, () -> Checks.withPile("0330/0000/0000/0000").topplingsIf(0, 1, 0, 1));
        Checks.due("18 a row", 2, () -> Checks.withPile("0330/0000/0000/0000").topplingsIfByRounds(0, 1, 0, 1));
    }

    private static void grainsAt() {
        AvalancheGallery gallery = Checks.withPile("0120/3333/0000/1000");
        Checks.due("22 x 1, y 0", 1, () -> gallery.grainsAt(0, 1, 0));
        Checks.due("22 x 0, y 1", 3, () -> gallery.grainsAt(0, 0, 1));
        Checks.due("22 x 0, y 3", 1, () -> gallery.grainsAt(0, 0, 3));
        Checks.due("22 x 3, y 0", 0, () -> gallery.grainsAt(0, 3, 0));
        Checks.argument("22 x -1", () -> gallery.grainsAt(0, -1, 0));
        Checks.argument("22 x 4", () -> gallery.grainsAt(0, 4, 0));
        Checks.argument("22 y -1", () -> gallery.grainsAt(0, 0, -1));
        Checks.argument("22 y 4", () -> gallery.grainsAt(0, 0, 4));
        Checks.index("22 index before argument", () -> gallery.grainsAt(1, 4, 4));
        Checks.due("23 grains", 16, () -> gallery.grains(0));
    }

    private static void accounts() {
        AvalancheGallery gallery = withExhibits(2);
        gallery.drop(0, 0, 0, 8);
        gallery.drop(0, 3, 3, 2);
        Checks.due("28 dropped", 10, () -> gallery.dropped(0));
        Checks.due("29 spilled", 4, () -> gallery.spilled(0));
        Checks.due("30 nothing melted", 0, () -> gallery.melted(0));
        gallery.passDays(1);
        Checks.due("30 melted", 4, () -> gallery.melted(0));
        Checks.due("23 grains", 2, () -> gallery.grains(0));
        gallery.passDays(1);
        Checks.due("30 melted further", 6, () -> gallery.melted(0));
        Checks.due("28 dropped stays", 10, () -> gallery.dropped(0));
        Checks.due("28 of the other", 0, () -> gallery.dropped(1));
        Checks.due("29 of the other", 0, () -> gallery.spilled(1));
        Checks.due("30 of the other", 0, () -> gallery.melted(1));
    }

    private static void dueLasting(String rows, boolean lasts) {
        AvalancheGallery gallery = Checks.withPile(rows);
        Checks.due("24 lasts " + rows, lasts, () -> gallery.lasts(0));
        Checks.due("25 lastsByToppling " + rows, lasts, () -> gallery.lastsByToppling(0));
        Checks.due("25 the pile stays", rows, () -> Checks.pileOf(gallery, 0));
        gallery.topplingsIfByRounds(0, 1, 1, 40);
        Checks.due("24 again " + rows, lasts, () -> gallery.lasts(0));
        gallery.topplingsIf(0, 1, 1, 40);
        Checks.due("25 again " + rows, lasts, () -> gallery.lastsByToppling(0));
    }

    private static void lasting() {
        dueLasting("0000/0000/0000/0000", false);
        dueLasting("3333/3333/3333/3333", true);
        dueLasting("2222/2222/2222/2222", true);
        // Two neighbours without a grain keep each other from burning; one alone does not.
        dueLasting("3333/3003/3333/3333", false);
        dueLasting("3333/3033/3333/3333", true);
        dueLasting("0033/3333/3333/3333", false);
        dueLasting("0303/3333/3333/3333", true);
        // A ring of four places needs a place with two grains.
        dueLasting("3333/3113/3113/3333", false);
        dueLasting("3333/3213/3113/3333", true);
        dueLasting("2112/1111/1111/2112", false);
    }

    private static void dueSlope(String rows, int length) {
        AvalancheGallery gallery = Checks.withPile(rows);
        Checks.due("26 longestSlope " + rows, length, () -> gallery.longestSlope(0));
        Checks.due("27 longestSlopeByGrains " + rows, length, () -> gallery.longestSlopeByGrains(0));
    }

    private static void slopes() {
        dueSlope("0000/0000/0000/0000", 1);
        dueSlope("3333/3333/3333/3333", 1);
        dueSlope("3330/3333/3333/3333", 2);
        dueSlope("3333/3333/3333/3332", 2);
        dueSlope("3210/0000/0000/0000", 4);
        dueSlope("0123/0000/0000/0000", 4);
        dueSlope("0000/0003/0002/0001", 4);
        dueSlope("0000/0000/0012/0003", 4);
        // A corner is no side: 3 and 2 do not touch here, nor do 2 and 1.
        dueSlope("3030/0200/0010/0000", 2);
        dueSlope("3333/3332/3333/3331", 2);
        dueSlope("3333/3332/3331/3333", 3);
        // The last place of a row is no neighbour of the first one of the next row.
        dueSlope("3333/2333/3333/3333", 2);
        dueSlope("2223/1222/2222/2222", 2);
    }

    private static void noExhibit() {
        AvalancheGallery gallery = withExhibits(1);
        for (int exhibit : new int[] {-1, 1, Integer.MIN_VALUE, Integer.MAX_VALUE}) {
            Checks.index("15", () -> gallery.setLimit(exhibit, 1));
            Checks.index("16", () -> gallery.drop(exhibit, 0, 0, 1));
            Checks.index("17", () -> gallery.topplingsIf(exhibit, 0, 0, 1));
            Checks.index("18", () -> gallery.topplingsIfByRounds(exhibit, 0, 0, 1));
            Checks.index("20", () -> gallery.roomOf(exhibit));
            Checks.index("21", () -> gallery.limit(exhibit));
            Checks.index("22", () -> gallery.grainsAt(exhibit, 0, 0));
            Checks.index("23", () -> gallery.grains(exhibit));
            Checks.index("24", () -> gallery.lasts(exhibit));
            Checks.index("25", () -> gallery.lastsByToppling(exhibit));
            Checks.index("26", () -> gallery.longestSlope(exhibit));
            Checks.index("27", () -> gallery.longestSlopeByGrains(exhibit));
            Checks.index("28", () -> gallery.dropped(exhibit));
            Checks.index("29", () -> gallery.spilled(exhibit));
            Checks.index("30", () -> gallery.melted(exhibit));
        }
        int most = Integer.MAX_VALUE;
        Checks.argument("16 most", () -> gallery.drop(0, most, most, most));
        Checks.argument("17 least", () -> gallery.topplingsIf(0, Integer.MIN_VALUE, 0, 1));
        Checks.argument("22 most", () -> gallery.grainsAt(0, 0, most));
    }
}
