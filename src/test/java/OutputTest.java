/** Promises 45 to 52: refusals, statistics, output and consistency. */
public final class OutputTest {
    public static void main(String[] args) {
        refusals();
        meanGrains();
        lentFraction();
        writePile();
        writeWay();
        outputCharacter();
        isConsistent();
        Checks.finish("OutputTest");
    }

    private static AvalancheGallery withExhibits(int count) {
        return Checks.withExhibits(count, 0, 0, 0);
    }

    private static void dueOutput(String what, AvalancheGallery gallery, String output, int length) {
        Checks.due(what + " length", output.length(), () -> length);
        Checks.due(what, output, () -> Checks.outputOf(gallery, output.length()));
        Checks.index(what + " end", () -> gallery.outputCharacter(output.length()));
    }

    private static void refusals() {
        AvalancheGallery gallery = withExhibits(1);
        Checks.missing("45 nothing was refused", gallery::refusalReason);
        Checks.missing("46 nothing was refused", gallery::refusalDetail);
        Checks.refused("31 no way", () -> gallery.send(0, 1));
        Checks.due("45 NO_WAY", AvalancheGallery.NO_WAY, gallery::refusalReason);
        Checks.due("46 room 0", 0, gallery::refusalDetail);
        Checks.missing("32 is no refusal", () -> gallery.meltIfSent(0, 1));
        gallery.ask(0, 0, 0, 1);
        gallery.takeBest(0);
        Checks.due("45 is kept", AvalancheGallery.NO_WAY, gallery::refusalReason);
        Checks.refused("31 lent", () -> gallery.send(0, 0));
        Checks.due("45 LENT", AvalancheGallery.LENT, gallery::refusalReason);
        Checks.due("46 day 0", 0, gallery::refusalDetail);
    }

    private static void meanGrains() {
        Checks.arithmetic("47 no exhibits", () -> withExhibits(0).meanGrains());
        AvalancheGallery gallery = withExhibits(3);
        Checks.due("47 no grains", 0.0, gallery::meanGrains);
        gallery.drop(0, 0, 0, 3);
        gallery.drop(2, 1, 1, 7);
        Checks.due("47 ten grains on three", 10.0 / 3.0, gallery::meanGrains);
        gallery.drop(1, 2, 2, 2);
        Checks.due("47 twelve grains on three", 4.0, gallery::meanGrains);
    }

    private static void lentFraction() {
        Checks.arithmetic("48 no exhibits", () -> withExhibits(0).lentFraction());
        AvalancheGallery gallery = withExhibits(3);
        Checks.due("48 none is lent", 0.0f, gallery::lentFraction);
        gallery.ask(1, 1, 2, 1);
        gallery.takeBest(1);
        Checks.due("48 not on the present day", 0.0f, gallery::lentFraction);
        gallery.passDays(1);
        Checks.due("48 one of three", 1.0f / 3.0f, gallery::lentFraction);
        gallery.ask(0, 1, 1, 1);
        gallery.takeBest(0);
        gallery.ask(2, 0, 99, 1);
        gallery.takeBest(2);
        Checks.due("48 all", 1.0f, gallery::lentFraction);
        gallery.passDays(1);
        Checks.due("48 two of three", 2.0f / 3.0f, gallery::lentFraction);
        gallery.passDays(98);
        Checks.due("48 on day 100", 0.0f, gallery::lentFraction);
    }

    private static void writePile() {
        AvalancheGallery gallery = withExhibits(2);
        gallery.drop(0, 1, 0, 1);
        gallery.drop(0, 2, 0, 2);
        for (int x = 0; x < 4; x++) {
            gallery.drop(0, x, 1, 3);
        }
        gallery.drop(0, 0, 3, 1);
        dueOutput("49 the example", gallery, "0120/3333/0000/1000", gallery.writePile(0));
        dueOutput("49 an empty pile", gallery, "0000/0000/0000/0000", gallery.writePile(1));
        Checks.index("49 no exhibit 2", () -> gallery.writePile(2));
        Checks.index("49 no exhibit -1", () -> gallery.writePile(-1));
        Checks.due("49 the output stays", '0', () -> gallery.outputCharacter(18));
    }

    private static void writeWay() {
        AvalancheGallery gallery = withExhibits(0);
        for (int room = 2; room < 6; room++) {
            gallery.addRoom(0);
        }
        dueOutput("50 one room", gallery, "5=0", gallery.writeWay(5, 5));
        Checks.missing("50 no way", () -> gallery.writeWay(0, 1));
        dueOutput("50 the output stays", gallery, "5=0", 3);
        for (int room = 0; room < 5; room++) {
            gallery.setLeg(room, room + 1, 99, 0);
        }
        dueOutput("50 the longest", gallery, "0>1>2>3>4>5=495", gallery.writeWay(0, 5));
        dueOutput("50 back", gallery, "2>1=99", gallery.writeWay(2, 1));
        gallery.setLeg(0, 5, 5, 0);
        dueOutput("50 a shorter one", gallery, "1>0>5=104", gallery.writeWay(1, 5));
        Checks.index("50 no room 6", () -> gallery.writeWay(0, 6));
        Checks.index("50 no room -1", () -> gallery.writeWay(-1, 0));
        Checks.index("50 least and most", () -> gallery.writeWay(Integer.MIN_VALUE, Integer.MAX_VALUE));
    }

    private static void outputCharacter() {
        AvalancheGallery gallery = withExhibits(1);
        Checks.index("51 empty at first", () -> gallery.outputCharacter(0));
        gallery.writePile(0);
        Checks.due("51 first", '0', () -> gallery.outputCharacter(0));
        Checks.due("51 between rows", '/', () -> gallery.outputCharacter(14));
        Checks.index("51 index -1", () -> gallery.outputCharacter(-1));
        Checks.index("51 index 19", () -> gallery.outputCharacter(19));
        Checks.index("51 least", () -> gallery.outputCharacter(Integer.MIN_VALUE));
        Checks.index("51 most", () -> gallery.outputCharacter(Integer.MAX_VALUE));
        gallery.undo();
        gallery.undo();
        Checks.due("51 untouched by undo", '/', () -> gallery.outputCharacter(4));
    }

    private static void isConsistent() {
        AvalancheGallery gallery = withExhibits(2);
        Checks.due("52 new", true, gallery::isConsistent);
        gallery.setLeg(0, 1, 5, 7);
        gallery.addRoom(9);
        gallery.setWarmth(0, 3);
        gallery.drop(0, 0, 0, 40);
        gallery.drop(1, 3, 3, 17);
        gallery.ask(1, 1, 5, 9);
        gallery.ask(1, 5, 6, 8);
        Checks.due("52 before", true, gallery::isConsistent);
        int changes = gallery.undoCount();
        gallery.passDays(2);
        gallery.send(0, 1);
        gallery.takeBest(1);
        Checks.due("52 after", true, gallery::isConsistent);
        gallery.undo();
        gallery.undo();
        Checks.due("52 after undo", true, gallery::isConsistent);
        Checks.due("52 is no change", Math.min(8, changes + 3) - 2, gallery::undoCount);
    }
}
