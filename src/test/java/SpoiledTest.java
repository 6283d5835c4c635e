import java.lang.reflect.Field;

/**
 * Promise 52: no call makes a gallery inconsistent, so these are spoiled behind their face, each in such a way that one
 * comparison of isConsistent alone can tell it.
 */
public final class SpoiledTest {
    private static final int EXHIBITS = 5;
    private static final int ROOMS = 6;
    private static final String LOW = "0000/0000/0000/0000";

    public static void main(String[] args) throws Exception {
        for (int exhibit = 0; exhibit < EXHIBITS; exhibit++) {
            grains(exhibit);
            lasting(exhibit);
            slopes(exhibit);
            leastPassed(exhibit);
        }
        fees();
        minutes();
        Checks.finish("SpoiledTest");
    }

    private static Object valueOf(Object owner, String name) throws Exception {
        Field field = owner.getClass().getDeclaredField(name);
        field.setAccessible(true);
        return field.get(owner);
    }

    private static void add(Object owner, String name, int number) throws Exception {
        Field field = owner.getClass().getDeclaredField(name);
        field.setAccessible(true);
        field.setInt(owner, field.getInt(owner) + number);
    }

    private static Object stateOf(AvalancheGallery gallery) throws Exception {
        return valueOf(gallery, "now");
    }

    private static Object exhibitOf(AvalancheGallery gallery, int exhibit) throws Exception {
        return ((Object[]) valueOf(stateOf(gallery), "exhibits"))[exhibit];
    }

    private static int[][] legsOf(AvalancheGallery gallery, String name) throws Exception {
        return (int[][]) valueOf(stateOf(gallery), name);
    }

    /** Six rooms without legs, and five exhibits in one of them. */
    private static AvalancheGallery unspoiled(int room) {
        AvalancheGallery gallery = Checks.withRooms(new int[ROOMS]);
        for (int exhibit = 0; exhibit < EXHIBITS; exhibit++) {
            gallery.addExhibit(room, 0);
        }
        return gallery;
    }

    private static void dueConsistent(AvalancheGallery gallery) {
        Checks.due("52 not spoiled yet", true, gallery::isConsistent);
    }

    private static void dueSpoiled(String what, AvalancheGallery gallery) {
        Checks.due("52 " + what, false, gallery::isConsistent);
        Checks.due("52 " + what + ", asked again", false, gallery::isConsistent);
    }

    private static void grains(int exhibit) throws Exception {
        for (String count : new String[] {"droppedGrains", "spilledGrains", "meltedGrains"}) {
            AvalancheGallery gallery = unspoiled(0);
            gallery.drop(exhibit, 1, 1, 40);
            gallery.setWarmth(0, 3);
            gallery.passDays(2);
            dueConsistent(gallery);
            for (int number : new int[] {1, -1}) {
                add(exhibitOf(gallery, exhibit), count, number);
                dueSpoiled(count + " of exhibit " + exhibit + " by " + number, gallery);
                add(exhibitOf(gallery, exhibit), count, -number);
                dueConsistent(gallery);
            }
        }
    }

    /** Gives a pile these grains, all of them dropped, even if places could topple. */
    private static AvalancheGallery withGrains(int exhibit, String rows) throws Exception {
        AvalancheGallery gallery = unspoiled(0);
        int[] pile = (int[]) valueOf(exhibitOf(gallery, exhibit), "pile");
        for (int place = 0; place < pile.length; place++) {
            pile[place] = rows.charAt(place / 4 * 5 + place % 4) - '0';
            add(exhibitOf(gallery, exhibit), "droppedGrains", pile[place]);
        }
        return gallery;
    }

    // All places burn, but the first one topples twice; the longest slope has two places by both methods.
    private static void lasting(int exhibit) throws Exception {
        dueConsistent(withGrains(exhibit, "3333/3333/3333/3332"));
        AvalancheGallery gallery = withGrains(exhibit, "5333/3333/3333/3332");
        Checks.due("24 of exhibit " + exhibit, true, () -> gallery.lasts(exhibit));
        Checks.due("25 of exhibit " + exhibit, false, () -> gallery.lastsByToppling(exhibit));
        Checks.due("26, 27 of exhibit " + exhibit, true,
                () -> gallery.longestSlope(exhibit) == gallery.longestSlopeByGrains(exhibit));
        dueSpoiled("lasts of exhibit " + exhibit, gallery);
    }

    // A place with more than three grains is passed over by the second method; neither finds that the pile lasts.
    private static void slopes(int exhibit) throws Exception {
        dueConsistent(withGrains(exhibit, LOW));
        AvalancheGallery gallery = withGrains(exhibit, "4000/0000/0000/0000");
        Checks.due("26 of exhibit " + exhibit, 2, () -> gallery.longestSlope(exhibit));
        Checks.due("27 of exhibit " + exhibit, 1, () -> gallery.longestSlopeByGrains(exhibit));
        Checks.due("24, 25 of exhibit " + exhibit, false,
                () -> gallery.lasts(exhibit) || gallery.lastsByToppling(exhibit));
        dueSpoiled("longestSlope of exhibit " + exhibit, gallery);
    }

    // Fees that come from nowhere: only the first method begins with them.
    private static void fees() throws Exception {
        AvalancheGallery gallery = unspoiled(0);
        gallery.ask(2, 1, 2, 3);
        dueConsistent(gallery);
        ((int[]) valueOf(valueOf(gallery, "lender"), "best"))[0] = 1;
        Checks.due("41 of exhibit 2", 4, () -> gallery.bestFees(2));
        Checks.due("42 of exhibit 2", 3, () -> gallery.bestFeesByTrials(2));
        dueSpoiled("bestFees", gallery);
    }

    // The warmth is so great that a sum with it turns negative, if only for the method that looks at all legs. The leg
    // is laid in one direction alone, so that it is one room alone for which the methods do not agree.
    private static void leastPassed(int exhibit) throws Exception {
        for (int room = 0; room < ROOMS; room++) {
            AvalancheGallery gallery = unspoiled(room < 3 ? 5 : 0);
            int from = room == 1 ? 2 : 1;
            gallery.setLeg(from, room, 5, 9);
            legsOf(gallery, "minutesOfLegs")[room][from] = 0;
            for (int other = 0; other < EXHIBITS; other++) {
                add(exhibitOf(gallery, other), "caseLimit", other == exhibit ? 0 : Integer.MAX_VALUE);
            }
            dueAgree(gallery, from, room);
            legsOf(gallery, "warmthOfLegs")[from][room] = 1 << 30;
            dueAgree(gallery, from, room);
            legsOf(gallery, "warmthOfLegs")[from][room] = Integer.MAX_VALUE;
            int to = room;
            Checks.missing("33 to room " + to, () -> gallery.leastPassed(exhibit, to));
            Checks.due("34 to room " + to, true, () -> gallery.leastPassedByRounds(exhibit, to) < 0);
            dueSpoiled("leastPassed of exhibit " + exhibit + " to room " + to, gallery);
        }
    }

    private static void dueAgree(AvalancheGallery gallery, int from, int to) {
        Checks.due("10 from " + from + " to " + to, 5, () -> gallery.minutes(from, to));
        Checks.due("11 from " + from + " to " + to, 5, () -> gallery.minutesByTable(from, to));
        dueConsistent(gallery);
    }

    // Minutes that are too many for the first method, in one direction alone.
    private static void minutes() throws Exception {
        for (int from = 0; from < ROOMS; from++) {
            for (int to = 0; to < ROOMS; to++) {
                if (from != to) {
                    AvalancheGallery gallery = unspoiled(0);
                    gallery.setLeg(from, to, 5, 0);
                    dueAgree(gallery, from, to);
                    legsOf(gallery, "minutesOfLegs")[from][to] = 600000;
                    int[] pair = {from, to};
                    Checks.missing("10 from " + from + " to " + to, () -> gallery.minutes(pair[0], pair[1]));
                    Checks.due("11 from " + from + " to " + to, 600000,
                            () -> gallery.minutesByTable(pair[0], pair[1]));
                    dueSpoiled("minutes from " + from + " to " + to, gallery);
                }
            }
        }
    }
}
