import java.util.ArrayList;
import java.util.IdentityHashMap;
import java.util.List;
import java.util.Map;
import java.util.TreeSet;

/** Calls at the edges of what the document allows; each one is made on a gallery of its own. */
final class Edges {
    static final String INDEX = "IndexOutOfBoundsException";
    static final String ARGUMENT = "IllegalArgumentException";
    static final String STATE = "IllegalStateException";
    static final String MISSING = "NoSuchElementException";
    static final String REFUSED = "UnsupportedOperationException";
    static final String ARITHMETIC = "ArithmeticException";

    private static final List<Act> LOOKS = looks();
    private static final Map<Galleries.Recipe, List<String>> UNTOUCHED = new IdentityHashMap<>();

    private Edges() {
    }

    interface Act {
        Object on(AvalancheGallery gallery);
    }

    interface ActWith {
        Object on(AvalancheGallery gallery, int number);
    }

    /** The numbers from least to most are allowed; all others throw the exception, and change nothing. */
    static void range(String exception, int least, int most, Galleries.Recipe recipe, ActWith act) {
        for (int number = least; number <= most; number++) {
            int allowed = number;
            String answer = Checks.answerOf(() -> act.on(recipe.make(), allowed));
            Checks.due(number + " of " + least + " to " + most + " is allowed: " + answer, false,
                    () -> answer.startsWith("throws"));
        }
        for (int number : outside(least, most)) {
            refused(number + " outside of " + least + " to " + most, exception, recipe, g -> act.on(g, number));
        }
    }

    // Some of these would be allowed if their higher bits or their sign were lost.
    private static List<Integer> outside(int least, int most) {
        List<Integer> outside = new ArrayList<>();
        for (int number : new int[] {least - 1, most + 1, most + 2, -most - 1, Integer.MIN_VALUE, Integer.MAX_VALUE,
            Integer.MIN_VALUE + most, least + 256, least + 65536, least + (1 << 30)}) {
            if (number < least || number > most) {
                outside.add(number);
            }
        }
        return new ArrayList<>(new TreeSet<>(outside));
    }

    /** Each index of a room or exhibit is allowed, and no other number. */
    static void index(int count, Galleries.Recipe recipe, ActWith act) {
        range(INDEX, 0, count - 1, recipe, act);
    }

    /** An act on two rooms, either of which may be missing; in the recipes all rooms are joined. */
    interface ActOnPair {
        Object on(AvalancheGallery gallery, int one, int other);
    }

    static void eitherRoom(ActOnPair act) {
        eitherRoom(3, Galleries.LADEN, act);
        eitherRoom(6, Galleries.FULL, act);
        for (int number : new int[] {-1, 0, 1}) {
            refused("no rooms, " + number, INDEX, Galleries.BARE, g -> act.on(g, number, 1 - number));
        }
    }

    private static void eitherRoom(int rooms, Galleries.Recipe recipe, ActOnPair act) {
        index(rooms, recipe, (g, room) -> act.on(g, room, room == 1 ? 0 : 1));
        index(rooms, recipe, (g, room) -> act.on(g, room == 1 ? 0 : 1, room));
        refused("both missing", INDEX, recipe, g -> act.on(g, rooms, -1));
        refused("both the same that is missing", INDEX, recipe, g -> act.on(g, rooms, rooms));
    }

    /** An act on an exhibit, with no exhibits, with two and with five. */
    static void exhibit(ActWith act) {
        index(0, Galleries.BARE, act);
        index(2, Galleries.LADEN, act);
        index(5, Galleries.FULL, act);
    }

    /** The call throws the exception, and afterwards everything answers as it does without the call. */
    static void refused(String what, String exception, Galleries.Recipe recipe, Act act) {
        List<String> untouched = UNTOUCHED.computeIfAbsent(recipe, Edges::lookAtEach);
        for (int look = 0; look < LOOKS.size(); look++) {
            int at = look;
            AvalancheGallery gallery = recipe.make();
            Checks.due(what, "throws " + exception, () -> act.on(gallery));
            Checks.due(what + " changes nothing, look " + look, untouched.get(look), () -> LOOKS.get(at).on(gallery));
        }
    }

    private static List<String> lookAtEach(Galleries.Recipe recipe) {
        List<String> answers = new ArrayList<>();
        for (Act look : LOOKS) {
            answers.add(Checks.answerOf(() -> look.on(recipe.make())));
        }
        return answers;
    }

    private static List<Act> looks() {
        List<Act> looks = new ArrayList<>();
        looks.add(Galleries::view);
        looks.add(Edges::kept);
        looks.add(Edges::afterText);
        looks.add(Edges::afterTaking);
        looks.add(Edges::afterRestore);
        for (int steps = 1; steps <= 8; steps++) {
            int count = steps;
            looks.add(gallery -> afterUndo(gallery, count));
        }
        return looks;
    }

    /** What stays when changes are undone. */
    static String kept(AvalancheGallery gallery) {
        StringBuilder kept = new StringBuilder();
        kept.append(gallery.undoCount()).append(' ').append(Checks.answerOf(gallery::refusalReason));
        kept.append(' ').append(Checks.answerOf(gallery::refusalDetail));
        kept.append(' ').append(Checks.answerOf(gallery::errorPosition));
        kept.append(' ').append(Checks.answerOf(gallery::failedCommand)).append(' ');
        for (int index = 0; index < 25; index++) {
            int at = index;
            kept.append(Checks.answerOf(() -> gallery.outputCharacter(at)).replaceAll("^throws.*", "_"));
        }
        return kept.toString();
    }

    // The buffers of the recipes hold the beginning of a text, so that what they hold is seen when it is executed.
    private static String afterText(AvalancheGallery gallery) {
        StringBuilder answers = new StringBuilder();
        for (char character : "day 2".toCharArray()) {
            answers.append(Checks.answerOf(() -> gallery.feed(character))).append(' ');
        }
        answers.append(Checks.answerOf(gallery::execute)).append(Checks.answerOf(gallery::errorPosition));
        return answers.append(Galleries.view(gallery)).toString();
    }

    private static String afterTaking(AvalancheGallery gallery) {
        StringBuilder answers = new StringBuilder();
        for (int exhibit = 0; exhibit < gallery.exhibitCount(); exhibit++) {
            int index = exhibit;
            answers.append(Checks.answerOf(() -> gallery.takeBest(index))).append(' ');
        }
        return answers.append(Galleries.view(gallery)).toString();
    }

    static String afterRestore(AvalancheGallery gallery) {
        return Checks.answerOf(gallery::restore) + " " + Galleries.view(gallery) + gallery.undoCount();
    }

    /** What the undoing of as many changes answers, and what there is afterwards. */
    static String afterUndo(AvalancheGallery gallery, int steps) {
        StringBuilder answers = new StringBuilder();
        for (int step = 0; step < steps; step++) {
            answers.append(Checks.answerOf(gallery::undo)).append(' ');
        }
        return answers.append(gallery.undoCount()).append(Galleries.view(gallery)).toString();
    }
}
