/** Promises 31 to 36: couriers, what melts, and days. */
public final class CouriersTest {
    public static void main(String[] args) {
        send();
        sendToOwnRoom();
        sendRefused();
        refusalOrder();
        meltIfSent();
        meltingOrder();
        leastPassed();
        passDays();
        passDaysWhileLent();
        wrongIndices();
        Checks.finish("CouriersTest");
    }

    /** Rooms of warmth 0 in a row, with legs of warmth 2, 5 and 9; one exhibit in room 0. */
    private static AvalancheGallery withRow(int limit) {
        AvalancheGallery gallery = Checks.withExhibits(1, limit, 0, 0, 0, 0, 0);
        gallery.setLeg(0, 1, 10, 2);
        gallery.setLeg(1, 2, 10, 5);
        gallery.setLeg(2, 3, 10, 9);
        return gallery;
    }

    private static void send() {
        AvalancheGallery gallery = withRow(4);
        gallery.drop(0, 1, 1, 10);
        Checks.due("31 a leg below the limit", 0, () -> gallery.send(0, 1));
        Checks.due("20 it is there", 1, () -> gallery.roomOf(0));
        Checks.due("31 legs that pass it by 1 and 5", 6, () -> gallery.send(0, 3));
        Checks.due("20 it is there", 3, () -> gallery.roomOf(0));
        Checks.due("23 grains", 4, () -> gallery.grains(0));
        Checks.due("30 melted", 6, () -> gallery.melted(0));
        Checks.due("31 no more than there are", 4, () -> gallery.send(0, 1));
        Checks.due("30 melted", 10, () -> gallery.melted(0));
        Checks.due("31 an empty pile", 0, () -> gallery.send(0, 3));
        Checks.due("31 as warm as the limit", 0, () -> {
            AvalancheGallery other = withRow(2);
            other.drop(0, 0, 0, 3);
            return other.send(0, 1);
        });
        AvalancheGallery faster = withRow(0);
        faster.drop(0, 1, 1, 20);
        faster.setLeg(0, 4, 1, 9);
        faster.setLeg(4, 1, 1, 9);
        Checks.due("31 the fastest way, not the coolest", 18, () -> faster.send(0, 1));
    }

    private static void sendToOwnRoom() {
        AvalancheGallery gallery = withRow(0);
        gallery.setWarmth(0, 9);
        gallery.drop(0, 1, 1, 10);
        int changes = gallery.undoCount();
        Checks.due("31 to its own room", 0, () -> gallery.send(0, 0));
        Checks.due("31 is a change", Math.min(8, changes + 1), gallery::undoCount);
        Checks.due("32 to its own room", 0, () -> gallery.meltIfSent(0, 0));
        Checks.due("33 to its own room", 0, () -> gallery.leastPassed(0, 0));
        Checks.due("34 to its own room", 0, () -> gallery.leastPassedByRounds(0, 0));
        Checks.due("23 nothing melts", 10, () -> gallery.grains(0));
    }

    private static void sendRefused() {
        AvalancheGallery gallery = withRow(0);
        gallery.drop(0, 1, 1, 10);
        gallery.send(0, 1);
        Checks.refused("31 no way", () -> gallery.send(0, 4));
        Checks.due("45 NO_WAY", 2, gallery::refusalReason);
        Checks.due("46 the room of the exhibit", 1, gallery::refusalDetail);
        gallery.ask(0, 0, 4, 9);
        gallery.ask(0, 5, 7, 9);
        gallery.takeBest(0);
        Checks.refused("31 lent", () -> gallery.send(0, 2));
        Checks.due("45 LENT", 1, gallery::refusalReason);
        Checks.due("46 the last day of this loan", 4, gallery::refusalDetail);
        gallery.passDays(5);
        Checks.refused("31 lent on the first day", () -> gallery.send(0, 2));
        Checks.due("46 of the next loan", 7, gallery::refusalDetail);
        gallery.passDays(2);
        Checks.refused("31 lent on the last day", () -> gallery.send(0, 2));
        gallery.passDays(1);
        Checks.due("31 no longer lent", 5, () -> gallery.send(0, 2));
        Checks.due("45 the refusal is kept", 1, gallery::refusalReason);
        Checks.due("46 its detail, too", 7, gallery::refusalDetail);
    }

    private static void refusalOrder() {
        AvalancheGallery gallery = withRow(0);
        gallery.ask(0, 0, 99, 1);
        gallery.takeBest(0);
        Checks.index("31 index before a refusal", () -> gallery.send(0, 5));
        Checks.missing("45 nothing was refused", gallery::refusalReason);
        Checks.missing("46 nothing was refused", gallery::refusalDetail);
        Checks.refused("31 lent before no way", () -> gallery.send(0, 4));
        Checks.due("45 LENT", 1, gallery::refusalReason);
        Checks.due("46 last day", 99, gallery::refusalDetail);
        Checks.refused("31 lent to its own room", () -> gallery.send(0, 0));
        Checks.missing("32 no way", () -> gallery.meltIfSent(0, 4));
        Checks.due("20 it stays", 0, () -> gallery.roomOf(0));
    }

    private static void meltIfSent() {
        AvalancheGallery gallery = withRow(1);
        Checks.due("32 an empty pile", 0, () -> gallery.meltIfSent(0, 3));
        gallery.drop(0, 1, 1, 9);
        Checks.due("32 three legs, 1 + 4 + 8", 9, () -> gallery.meltIfSent(0, 3));
        Checks.due("32 two legs", 5, () -> gallery.meltIfSent(0, 2));
        Checks.due("32 one leg", 1, () -> gallery.meltIfSent(0, 1));
        Checks.missing("32 no way", () -> gallery.meltIfSent(0, 4));
        Checks.due("32 nothing melts", 9, () -> gallery.grains(0));
        Checks.due("32 it stays", 0, () -> gallery.roomOf(0));
        gallery.ask(0, 0, 0, 1);
        gallery.takeBest(0);
        Checks.due("32 whether lent or not", 5, () -> gallery.meltIfSent(0, 2));
    }

    // The most grains first; of several places the smallest y, then the smallest x.
    private static void meltingOrder() {
        AvalancheGallery gallery = withRow(8);
        gallery.drop(0, 3, 0, 2);
        gallery.drop(0, 0, 1, 3);
        gallery.drop(0, 2, 1, 3);
        gallery.drop(0, 1, 2, 3);
        gallery.setWarmth(0, 9);
        String[] due = {"0002/2030/0300/0000", "0002/2020/0300/0000", "0002/2020/0200/0000", "0001/2020/0200/0000",
            "0001/1020/0200/0000", "0001/1010/0200/0000", "0001/1010/0100/0000", "0000/1010/0100/0000",
            "0000/0010/0100/0000", "0000/0000/0100/0000", "0000/0000/0000/0000"};
        for (String pile : due) {
            Checks.due("35 one grain melts", 1, () -> gallery.passDays(1));
            Checks.due("35 the place with the most", pile, () -> Checks.pileOf(gallery, 0));
        }
        Checks.due("35 nothing melts any more", 0, () -> gallery.passDays(1));
    }

    private static void dueLeast(AvalancheGallery gallery, int to, int sum) {
        Checks.due("33 leastPassed to " + to, sum, () -> gallery.leastPassed(0, to));
        Checks.due("34 leastPassedByRounds to " + to, sum, () -> gallery.leastPassedByRounds(0, to));
    }

    private static void leastPassed() {
        AvalancheGallery gallery = withRow(1);
        dueLeast(gallery, 1, 1);
        dueLeast(gallery, 2, 5);
        dueLeast(gallery, 3, 13);
        Checks.missing("33 no way", () -> gallery.leastPassed(0, 4));
        Checks.missing("34 no way", () -> gallery.leastPassedByRounds(0, 4));
        gallery.setLeg(0, 4, 99, 3);
        gallery.setLeg(4, 3, 99, 4);
        dueLeast(gallery, 3, 5);
        dueLeast(gallery, 2, 5);
        Checks.due("10 another way than the fastest", 30, () -> gallery.minutes(0, 3));
        gallery.setLimit(0, 4);
        dueLeast(gallery, 3, 0);
        dueLeast(gallery, 2, 1);
        gallery.ask(0, 0, 0, 1);
        gallery.takeBest(0);
        dueLeast(gallery, 2, 1);
        gallery.passDays(1);
        gallery.send(0, 3);
        dueLeast(gallery, 2, 1);
        dueLeast(gallery, 0, 0);
        gallery.removeLeg(2, 3);
        gallery.removeLeg(3, 4);
        Checks.missing("34 no way any more", () -> gallery.leastPassedByRounds(0, 2));
        Checks.missing("33 no way any more", () -> gallery.leastPassed(0, 2));
    }

    private static void passDays() {
        AvalancheGallery gallery = withRow(3);
        gallery.addExhibit(1, 0);
        gallery.setWarmth(0, 5);
        gallery.drop(0, 1, 1, 9);
        gallery.drop(1, 1, 1, 9);
        Checks.argument("35 days 0", () -> gallery.passDays(0));
        Checks.argument("35 days -1", () -> gallery.passDays(-1));
        Checks.argument("35 days 100", () -> gallery.passDays(100));
        Checks.due("36 day stays", 0, gallery::day);
        Checks.due("35 2 a day", 6, () -> gallery.passDays(3));
        Checks.due("36 day", 3, gallery::day);
        Checks.due("35 the cool one stays", 9, () -> gallery.grains(1));
        gallery.setWarmth(1, 1);
        Checks.due("35 both melt", 5, () -> gallery.passDays(2));
        Checks.due("23 first", 0, () -> gallery.grains(0));
        Checks.due("23 second", 7, () -> gallery.grains(1));
        Checks.due("35 many days", 7, () -> gallery.passDays(99));
        Checks.due("36 day", 104, gallery::day);
        Checks.due("35 beyond the loans", 0, () -> gallery.passDays(99));
        Checks.due("36 day", 203, gallery::day);
    }

    private static void passDaysWhileLent() {
        AvalancheGallery gallery = withRow(0);
        gallery.setWarmth(0, 1);
        gallery.drop(0, 0, 0, 3);
        gallery.drop(0, 1, 1, 3);
        gallery.ask(0, 1, 3, 1);
        gallery.takeBest(0);
        Checks.due("35 before the loan", 1, () -> gallery.passDays(1));
        Checks.due("35 on the loan", 0, () -> gallery.passDays(3));
        Checks.due("35 after the loan", 1, () -> gallery.passDays(1));
        AvalancheGallery other = withRow(0);
        other.setWarmth(0, 1);
        other.drop(0, 1, 1, 7);
        other.ask(0, 2, 4, 1);
        other.takeBest(0);
        Checks.due("35 in one call", 4, () -> other.passDays(7));
    }

    private static void wrongIndices() {
        AvalancheGallery gallery = withRow(0);
        int[][] wrong = {{-1, 0}, {1, 0}, {0, -1}, {0, 5}, {1, 5}, {Integer.MIN_VALUE, 0}, {0, Integer.MAX_VALUE}};
        for (int[] one : wrong) {
            Checks.index("31", () -> gallery.send(one[0], one[1]));
            Checks.index("32", () -> gallery.meltIfSent(one[0], one[1]));
            Checks.index("33", () -> gallery.leastPassed(one[0], one[1]));
            Checks.index("34", () -> gallery.leastPassedByRounds(one[0], one[1]));
        }
        Checks.argument("35 least", () -> gallery.passDays(Integer.MIN_VALUE));
        Checks.argument("35 most", () -> gallery.passDays(Integer.MAX_VALUE));
    }
}
