/** Counts what the tests check and prints what is wrong. */
final class Checks {
    private static int checked = 0;
    private static int wrong = 0;
    // The sentence of the document that the checks are about, or an empty text.
    private static String sentence = "";

    private Checks() {
    }

    interface Call {
        Object answer();
    }

    /** Tells which sentence of the document the next checks are about. */
    static void about(String words) {
        sentence = words;
    }

    /** What a call answers, or "throws" and the name of the exception that it throws. */
    static String answerOf(Call call) {
        try {
            return String.valueOf(call.answer());
        } catch (RuntimeException e) {
            return "throws " + e.getClass().getSimpleName();
        }
    }

    static void due(String what, Object wanted, Call call) {
        checked++;
        String got = answerOf(call);
        if (!got.equals(String.valueOf(wanted))) {
            wrong++;
            System.out.println(what + " answered " + got + ", due is " + wanted);
            System.out.print(sentence.isEmpty() ? "" : "    " + sentence + "\n");
        }
    }

    static void index(String what, Call call) {
        due(what, "throws IndexOutOfBoundsException", call);
    }

    static void argument(String what, Call call) {
        due(what, "throws IllegalArgumentException", call);
    }

    static void state(String what, Call call) {
        due(what, "throws IllegalStateException", call);
    }

    static void missing(String what, Call call) {
        due(what, "throws NoSuchElementException", call);
    }

    static void refused(String what, Call call) {
        due(what, "throws UnsupportedOperationException", call);
    }

    static void arithmetic(String what, Call call) {
        due(what, "throws ArithmeticException", call);
    }

    /** A gallery with a room of each warmth. */
    static AvalancheGallery withRooms(int... warmths) {
        AvalancheGallery gallery = new AvalancheGallery();
        for (int warmth : warmths) {
            gallery.addRoom(warmth);
        }
        return gallery;
    }

    /** A gallery with rooms, and with exhibits of one limit in the first one. */
    static AvalancheGallery withExhibits(int count, int limit, int... warmths) {
        AvalancheGallery gallery = withRooms(warmths);
        for (int exhibit = 0; exhibit < count; exhibit++) {
            gallery.addExhibit(0, limit);
        }
        return gallery;
    }

    /** A gallery with one exhibit whose rows are the words of the text, in a room of warmth 9 with the limit 5. */
    static AvalancheGallery withPile(String rows) {
        AvalancheGallery gallery = withExhibits(1, 5, 9, 0);
        for (int place = 0; place < 16; place++) {
            int grains = rows.charAt(place / 4 * 5 + place % 4) - '0';
            if (grains > 0) {
                gallery.drop(0, place % 4, place / 4, grains);
            }
        }
        due("the pile itself", rows, () -> pileOf(gallery, 0));
        return gallery;
    }

    /** A gallery in which each kind of change can be made; it took five changes. */
    static AvalancheGallery prepared() {
        AvalancheGallery gallery = withExhibits(1, 1, 5, 0);
        gallery.setLeg(0, 1, 5, 5);
        gallery.ask(0, 30, 31, 5);
        return gallery;
    }

    /** Feeds a text into the input buffer. */
    static void feed(AvalancheGallery gallery, String text) {
        for (int index = 0; index < text.length(); index++) {
            gallery.feed(text.charAt(index));
        }
    }

    static String outputOf(AvalancheGallery gallery, int length) {
        StringBuilder output = new StringBuilder();
        for (int index = 0; index < length; index++) {
            output.append(gallery.outputCharacter(index));
        }
        return output.toString();
    }

    static String pileOf(AvalancheGallery gallery, int exhibit) {
        StringBuilder pile = new StringBuilder();
        for (int y = 0; y < 4; y++) {
            for (int x = 0; x < 4; x++) {
                pile.append(gallery.grainsAt(exhibit, x, y));
            }
            pile.append(y < 3 ? "/" : "");
        }
        return pile.toString();
    }

    static void finish(String test) {
        System.out.println(test + ": " + checked + " checks, " + wrong + " wrong");
        if (wrong != 0 || checked == 0) {
            System.exit(1);
        }
    }
}
