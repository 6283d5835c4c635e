/** Counts what the tests check and prints what is wrong. */
final class Checks {
    private static int checked = 0;
    private static int wrong = 0;

    private Checks() {
    }

    interface Call {
        Object answer();
    }

    /** What a call answers, or "throws" and the name of the exception that it throws. */
    static String answerOf(Call call) {
        try {
            return String.valueOf(call.answer());
        } catch (RuntimeException e) {
            return "throws " + e.getClass().getSimpleName();
        }
    }

    static void due(String what, Object wanted, Call call) {
        checked++;
        String got = answerOf(call);
        if (!got.equals(String.valueOf(wanted))) {
            wrong++;
            System.out.println(what + " answered " + got + ", due is " + wanted);
        }
    }

    static void index(String what, Call call) {
        due(what, "throws IndexOutOfBoundsException", call);
    }

    static void argument(String what, Call call) {
        due(what, "throws IllegalArgumentException", call);
    }

    static void state(String what, Call call) {
        due(what, "throws IllegalStateException", call);
    }

    static void missing(String what, Call call) {
        due(what, "throws NoSuchElementException", call);
    }

    static void refused(String what, Call call) {
        due(what, "throws UnsupportedOperationException", call);
    }

    static void arithmetic(String what, Call call) {
        due(what, "throws ArithmeticException", call);
    }

    /** A gallery with a room of each warmth. */
    static AvalancheGallery withRooms(int... warmths) {
        AvalancheGallery gallery = new AvalancheGallery();
        for (int warmth : warmths) {
            gallery.addRoom(warmth);
        }
        return gallery;
    }

    /** A gallery with rooms, and with exhibits of one limit in the first one. */
    static AvalancheGallery withExhibits(int count, int limit, int... warmths) {
        AvalancheGallery gallery = withRooms(warmths);
        for (int exhibit = 0; exhibit < count; exhibit++) {
            gallery.addExhibit(0, limit);
        }
        return gallery;
    }

    /** A gallery in which each kind of change can be made; it took five changes. */
    static AvalancheGallery prepared() {
        AvalancheGallery gallery = withExhibits(1, 1, 5, 0);
        gallery.setLeg(0, 1, 5, 5);
        gallery.ask(0, 30, 31, 5);
        return gallery;
    }

    /** Feeds a text into the input buffer. */
    static void feed(AvalancheGallery gallery, String text) {
        for (int index = 0; index < text.length(); index++) {
            gallery.feed(text.charAt(index));
        }
    }

    static String outputOf(AvalancheGallery gallery, int length) {
        StringBuilder output = new StringBuilder();
        for (int index = 0; index < length; index++) {
            output.append(gallery.outputCharacter(index));
        }
        return output.toString();
    }

    static String pileOf(AvalancheGallery gallery, int exhibit) {
        StringBuilder pile = new StringBuilder();
        for (int y = 0; y < 4; y++) {
            for (int x = 0; x < 4; x++) {
                pile.append(gallery.grainsAt(exhibit, x, y));
            }
            pile.append(y < 3 ? "/" : "");
        }
        return pile.toString();
    }

    static void finish(String test) {
        System.out.println(test + ": " + checked + " checks, " + wrong + " wrong");
        if (wrong != 0 || checked == 0) {
            System.exit(1);
        }
    }
}
