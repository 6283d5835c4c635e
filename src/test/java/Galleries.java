/** Galleries in which something of everything is kept, so that a call that should change nothing is caught at it. */
final class Galleries {
    private Galleries() {
    }

    interface Recipe {
        AvalancheGallery make();
    }

    static final Recipe BARE = AvalancheGallery::new;
    static final Recipe LADEN = Galleries::laden;
    static final Recipe FULL = Galleries::full;
    static final Recipe APART = Galleries::apart;

    /** Three rooms that are all joined, two exhibits with loans, and eight changes of which one is undone. */
    private static AvalancheGallery laden() {
        AvalancheGallery gallery = Checks.withRooms(7, 0, 4);
        joinAll(gallery);
        gallery.addExhibit(0, 3);
        gallery.addExhibit(1, 2);
        gallery.drop(0, 1, 1, 11);
        gallery.drop(1, 3, 3, 9);
        takeLoan(gallery, 1, 0, 0, 4);
        Checks.answerOf(() -> gallery.send(1, 0));
        gallery.save();
        gallery.ask(0, 5, 6, 7);
        gallery.ask(0, 6, 8, 9);
        gallery.ask(1, 3, 4, 5);
        leaveTraces(gallery);
        gallery.drop(0, 0, 2, 6);
        gallery.setWarmth(2, 5);
        gallery.setLimit(0, 2);
        gallery.passDays(2);
        gallery.setLeg(0, 1, 50, 6);
        gallery.setLimit(0, 1);
        gallery.undo();
        Checks.feed(gallery, "day 1;");
        return gallery;
    }

    /** As many rooms, legs, exhibits, loans of exhibit 0, characters and changes as there can be. */
    private static AvalancheGallery full() {
        AvalancheGallery gallery = Checks.withRooms(9, 8, 0, 1, 2, 3);
        joinAll(gallery);
        for (int exhibit = 0; exhibit < 5; exhibit++) {
            gallery.addExhibit(exhibit, exhibit);
            gallery.ask(exhibit, 8 + exhibit, 12, 9 - exhibit);
        }
        gallery.drop(0, 2, 1, 40);
        leaveTraces(gallery);
        gallery.save();
        takeLoan(gallery, 4, 1, 2, 3);
        gallery.ask(4, 30, 31, 6);
        for (int asked = 1; asked < 8; asked++) {
            gallery.ask(0, asked, asked + 2, 40 - asked);
        }
        gallery.drop(3, 0, 0, 7);
        Checks.feed(gallery, "day 1;day 1;day 1;day 1;day 1;day 1;day 1;day 1;day 1;day 12");
        return gallery;
    }

    /** Rooms 0 and 1 are joined, 2 and 3 alone; one exhibit is in room 0, one in room 2. */
    private static AvalancheGallery apart() {
        AvalancheGallery gallery = Checks.withRooms(1, 2, 3, 4);
        gallery.setLeg(0, 1, 7, 5);
        gallery.addExhibit(0, 4);
        gallery.addExhibit(2, 1);
        gallery.drop(0, 3, 0, 5);
        gallery.drop(1, 1, 2, 3);
        gallery.save();
        gallery.passDays(1);
        gallery.writePile(0);
        Checks.feed(gallery, "room ");
        return gallery;
    }

    static void joinAll(AvalancheGallery gallery) {
        for (int one = 0; one < gallery.roomCount(); one++) {
            for (int other = 0; other < one; other++) {
                gallery.setLeg(one, other, 10 * one + other, one + other);
            }
        }
    }

    static void takeLoan(AvalancheGallery gallery, int exhibit, int first, int last, int fee) {
        gallery.ask(exhibit, first, last, fee);
        gallery.takeBest(exhibit);
    }

    /** Leaves an output, an error position and a failed command. */
    private static void leaveTraces(AvalancheGallery gallery) {
        gallery.writeWay(0, 2);
        Checks.feed(gallery, "room 5;x");
        Checks.answerOf(gallery::execute);
        Checks.feed(gallery, "day 1;take 9");
        Checks.answerOf(gallery::execute);
    }

    /** A gallery with as many rooms, all of them joined. */
    static Recipe joined(int rooms) {
        return () -> {
            AvalancheGallery gallery = Checks.withRooms(new int[rooms]);
            joinAll(gallery);
            return gallery;
        };
    }

    /** A gallery with one room and as many exhibits, each with one loan that is asked for. */
    static Recipe exhibits(int count) {
        return () -> {
            AvalancheGallery gallery = Checks.withExhibits(count, 0, 9);
            for (int exhibit = 0; exhibit < count; exhibit++) {
                gallery.ask(exhibit, 3, 5, 7);
            }
            return gallery;
        };
    }

    /** Everything that changes can change, as a text. */
    static String view(AvalancheGallery gallery) {
        StringBuilder view = new StringBuilder("day ").append(gallery.day());
        view.append(" income ").append(gallery.income());
        viewRooms(gallery, view);
        for (int exhibit = 0; exhibit < gallery.exhibitCount(); exhibit++) {
            viewExhibit(gallery, exhibit, view);
        }
        return view.toString();
    }

    private static void viewRooms(AvalancheGallery gallery, StringBuilder view) {
        for (int one = 0; one < gallery.roomCount(); one++) {
            view.append(" room ").append(gallery.warmth(one));
            for (int other = 0; other < one; other++) {
                int from = one;
                int to = other;
                view.append(' ').append(Checks.answerOf(() -> gallery.legMinutes(from, to)));
                view.append(' ').append(Checks.answerOf(() -> gallery.legWarmth(to, from)));
            }
        }
    }

    // Not every day is looked at: an object is promised 512 calls alone.
    private static void viewExhibit(AvalancheGallery gallery, int exhibit, StringBuilder view) {
        view.append(" exhibit ").append(gallery.roomOf(exhibit)).append(' ').append(gallery.limit(exhibit));
        view.append(' ').append(Checks.pileOf(gallery, exhibit)).append(' ').append(gallery.dropped(exhibit));
        view.append(' ').append(gallery.spilled(exhibit)).append(' ').append(gallery.melted(exhibit));
        view.append(' ').append(gallery.askedCount(exhibit)).append(' ').append(gallery.takenCount(exhibit));
        view.append(' ').append(gallery.bestFees(exhibit)).append(' ');
        for (int day : new int[] {0, 1, 2, 3, 4, 5, 6, 7, 8, 9, 10, 11, 12, 30, 31, 98, 99}) {
            view.append(gallery.isLent(exhibit, day) ? 'x' : '.');
        }
    }
}
