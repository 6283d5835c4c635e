import java.util.ArrayList;
import java.util.List;

/** Promises 57 to 60: undo and saved state. */
public final class UndoTest {
    public static void main(String[] args) {
        everyChange();
        noChanges();
        latestEight();
        undoneAndChangedAgain();
        failuresInFullHistory();
        untouchedByUndo();
        saveAndRestore();
        untouchedBySaving();
        readdedExhibit();
        overwrittenLoans();
        Checks.finish("UndoTest");
    }

    private static AvalancheGallery prepared() {
        AvalancheGallery gallery = Checks.prepared();
        gallery.drop(0, 1, 1, 30);
        return gallery;
    }

    /** Everything that changes can change, as a text. */
    private static String view(AvalancheGallery gallery) {
        StringBuilder view = new StringBuilder();
        int rooms = gallery.roomCount();
        for (int one = 0; one < rooms; one++) {
            view.append(" room ").append(gallery.warmth(one));
            for (int other = 0; other < rooms; other++) {
                int from = one;
                int to = other;
                view.append(' ').append(Checks.answerOf(() -> gallery.legMinutes(from, to)));
                view.append(' ').append(Checks.answerOf(() -> gallery.legWarmth(from, to)));
            }
        }
        for (int exhibit = 0; exhibit < gallery.exhibitCount(); exhibit++) {
            view.append(" exhibit ").append(gallery.roomOf(exhibit)).append(' ').append(gallery.limit(exhibit));
            view.append(' ').append(Checks.pileOf(gallery, exhibit)).append(' ').append(gallery.dropped(exhibit));
            view.append(' ').append(gallery.spilled(exhibit)).append(' ').append(gallery.melted(exhibit));
            view.append(' ').append(gallery.askedCount(exhibit)).append(' ').append(gallery.takenCount(exhibit));
            view.append(' ').append(gallery.bestFees(exhibit)).append(' ');
            for (int day = 0; day < 100; day++) {
                view.append(gallery.isLent(exhibit, day) ? 'x' : '.');
            }
        }
        return view.append(" day ").append(gallery.day()).append(" income ").append(gallery.income()).toString();
    }

    private static List<Checks.Call> changesOf(AvalancheGallery gallery) {
        List<Checks.Call> changes = new ArrayList<>();
        changes.add(() -> gallery.addRoom(7));
        changes.add(() -> gallery.setWarmth(0, 6));
        changes.add(() -> gallery.setLeg(1, 0, 9, 9));
        changes.add(() -> gallery.removeLeg(0, 1));
        changes.add(() -> gallery.addExhibit(1, 9));
        changes.add(() -> gallery.setLimit(0, 3));
        changes.add(() -> gallery.drop(0, 2, 2, 40));
        changes.add(() -> gallery.send(0, 1));
        changes.add(() -> gallery.ask(0, 1, 2, 3));
        changes.add(() -> gallery.takeBest(0));
        changes.add(() -> gallery.passDays(2));
        changes.add(() -> {
            Checks.feed(gallery, "room 1;day 1;take 0");
            return gallery.execute();
        });
        return changes;
    }

    private static void everyChange() {
        int count = changesOf(prepared()).size();
        for (int change = 0; change < count; change++) {
            AvalancheGallery gallery = prepared();
            String before = view(gallery);
            String answer = Checks.answerOf(changesOf(gallery).get(change));
            String after = view(gallery);
            Checks.due("57 change " + change + " succeeds", false, () -> answer.startsWith("throws"));
            Checks.due("57 change " + change + " is seen", false, () -> before.equals(after));
            Checks.due("58 change " + change, 7, gallery::undoCount);
            Checks.due("57 undo " + change, 6, gallery::undo);
            Checks.due("57 undone " + change, before, () -> view(gallery));
            Checks.due("58 undoCount " + change, 6, gallery::undoCount);
            String again = Checks.answerOf(changesOf(gallery).get(change));
            Checks.due("57 again " + change, answer, () -> again);
            Checks.due("57 the same again " + change, after, () -> view(gallery));
        }
    }

    private static void noChanges() {
        AvalancheGallery gallery = new AvalancheGallery();
        Checks.state("57 nothing to undo", gallery::undo);
        Checks.due("58 none", 0, gallery::undoCount);
        Checks.argument("2 refused", () -> gallery.addRoom(10));
        Checks.index("3 refused", () -> gallery.setWarmth(0, 1));
        Checks.argument("35 refused", () -> gallery.passDays(0));
        gallery.feed('x');
        Checks.argument("54 refused", gallery::execute);
        gallery.save();
        Checks.due("58 still none", 0, gallery::undoCount);
        Checks.state("57 still nothing to undo", gallery::undo);
        gallery.addRoom(1);
        Checks.due("58 the same warmth is a change, too", 2, () -> {
            gallery.setWarmth(0, 1);
            return gallery.undoCount();
        });
    }

    private static void latestEight() {
        AvalancheGallery gallery = new AvalancheGallery();
        gallery.addRoom(0);
        for (int warmth = 1; warmth <= 9; warmth++) {
            gallery.setWarmth(0, warmth);
            int count = Math.min(8, warmth + 1);
            Checks.due("58 undoCount", count, gallery::undoCount);
        }
        gallery.setWarmth(0, 0);
        gallery.setWarmth(0, 5);
        int[] due = {0, 9, 8, 7, 6, 5, 4, 3};
        for (int step = 0; step < 8; step++) {
            int at = step;
            Checks.due("57 undo", 7 - at, gallery::undo);
            Checks.due("57 warmth", due[at], () -> gallery.warmth(0));
        }
        Checks.state("57 only eight", gallery::undo);
        Checks.due("57 it stays", 3, () -> gallery.warmth(0));
    }

    private static void undoneAndChangedAgain() {
        AvalancheGallery gallery = new AvalancheGallery();
        gallery.addRoom(0);
        for (int warmth = 1; warmth <= 9; warmth++) {
            gallery.setWarmth(0, warmth);
        }
        gallery.undo();
        gallery.undo();
        gallery.undo();
        Checks.due("57 warmth", 6, () -> gallery.warmth(0));
        gallery.setWarmth(0, 0);
        Checks.due("58 five and one", 6, gallery::undoCount);
        Checks.due("57 undo", 5, gallery::undo);
        Checks.due("57 warmth", 6, () -> gallery.warmth(0));
        for (int left = 4; left >= 0; left--) {
            int count = left;
            Checks.due("57 undo", count, gallery::undo);
        }
        Checks.due("57 warmth", 1, () -> gallery.warmth(0));
        Checks.state("57 no more", gallery::undo);
    }

    // A text that fails must not push out the oldest change.
    private static void failuresInFullHistory() {
        AvalancheGallery gallery = new AvalancheGallery();
        gallery.addRoom(0);
        for (int warmth = 1; warmth <= 8; warmth++) {
            gallery.setWarmth(0, warmth);
        }
        Checks.feed(gallery, "room 1;day 0");
        Checks.refused("54 fails", gallery::execute);
        Checks.due("58 eight", 8, gallery::undoCount);
        Checks.index("3 fails", () -> gallery.setWarmth(1, 0));
        for (int warmth = 7; warmth >= 0; warmth--) {
            int due = warmth;
            gallery.undo();
            Checks.due("57 warmth", due, () -> gallery.warmth(0));
        }
        Checks.state("57 no more", gallery::undo);
    }

    private static void untouchedByUndo() {
        AvalancheGallery gallery = prepared();
        leaveTraces(gallery);
        Checks.feed(gallery, "day");
        for (int left = 6; left >= 0; left--) {
            int count = left;
            Checks.due("57 undo", count, gallery::undo);
        }
        dueKept(gallery);
        Checks.due("53 the buffer", 4, () -> gallery.feed(' '));
    }

    private static void leaveTraces(AvalancheGallery gallery) {
        gallery.removeLeg(0, 1);
        gallery.writePile(0);
        Checks.refused("31 no way", () -> gallery.send(0, 1));
        Checks.feed(gallery, "day");
        Checks.argument("54 malformed", gallery::execute);
        Checks.feed(gallery, "day 1;day 0");
        Checks.refused("54 fails", gallery::execute);
    }

    private static void dueKept(AvalancheGallery gallery) {
        Checks.due("51 output", '/', () -> gallery.outputCharacter(4));
        Checks.due("45 reason", 2, gallery::refusalReason);
        Checks.due("46 detail", 0, gallery::refusalDetail);
        Checks.due("55 errorPosition", 3, gallery::errorPosition);
        Checks.due("56 failedCommand", 1, gallery::failedCommand);
    }

    private static void saveAndRestore() {
        AvalancheGallery gallery = prepared();
        Checks.state("60 nothing was saved", gallery::restore);
        Checks.due("58 stays", 6, gallery::undoCount);
        String saved = view(gallery);
        Checks.due("59 save", 1, gallery::save);
        Checks.due("59 is no change", 6, gallery::undoCount);
        gallery.addRoom(3);
        gallery.addExhibit(2, 5);
        gallery.takeBest(0);
        gallery.passDays(50);
        gallery.drop(1, 0, 0, 9);
        Checks.due("60 restore", 1, gallery::restore);
        Checks.due("60 restored", saved, () -> view(gallery));
        Checks.due("58 none", 0, gallery::undoCount);
        Checks.state("57 none", gallery::undo);
        gallery.passDays(1);
        Checks.due("58 one", 1, gallery::undoCount);
        Checks.due("60 stays saved", 1, gallery::restore);
        Checks.due("60 restored again", saved, () -> view(gallery));
        gallery.addExhibit(0, 0);
        Checks.due("59 in place of it", 2, gallery::save);
        String second = view(gallery);
        gallery.undo();
        Checks.due("57 undone", saved, () -> view(gallery));
        Checks.due("60 restore", 2, gallery::restore);
        Checks.due("60 the second", second, () -> view(gallery));
    }

    private static void untouchedBySaving() {
        AvalancheGallery gallery = prepared();
        Checks.due("59 save", 1, gallery::save);
        leaveTraces(gallery);
        Checks.feed(gallery, "day 7");
        Checks.due("60 restore", 1, gallery::restore);
        dueKept(gallery);
        Checks.due("54 the buffer", 1, gallery::execute);
        Checks.due("36 day", 7, gallery::day);
    }

    // What an undone exhibit had must not come back with the next one.
    private static void readdedExhibit() {
        AvalancheGallery gallery = new AvalancheGallery();
        gallery.addRoom(9);
        gallery.save();
        gallery.addExhibit(0, 0);
        gallery.drop(0, 1, 1, 40);
        gallery.ask(0, 0, 9, 9);
        gallery.takeBest(0);
        gallery.ask(0, 10, 19, 9);
        gallery.restore();
        gallery.addExhibit(0, 0);
        Checks.due("60 an empty one", view(withOneExhibit()), () -> view(gallery));
        gallery.drop(0, 1, 1, 40);
        gallery.undo();
        gallery.undo();
        gallery.addExhibit(0, 0);
        Checks.due("57 an empty one", view(withOneExhibit()), () -> view(gallery));
    }

    // The later loan stands where the earlier one stood; undo must bring back its days and its fee.
    private static void overwrittenLoans() {
        AvalancheGallery gallery = withOneExhibit();
        gallery.ask(0, 98, 99, 50);
        gallery.takeBest(0);
        gallery.ask(0, 0, 3, 7);
        Checks.due("41 the later one", 7, () -> gallery.bestFees(0));
        gallery.undo();
        Checks.due("43 day 99", true, () -> gallery.isLent(0, 99));
        gallery.undo();
        Checks.due("43 no longer", false, () -> gallery.isLent(0, 98));
        Checks.due("43 no longer", false, () -> gallery.isLent(0, 99));
        Checks.due("41 the earlier one", 50, () -> gallery.bestFees(0));
        gallery.takeBest(0);
        Checks.due("43 its first day", true, () -> gallery.isLent(0, 98));
        Checks.due("43 its last day", true, () -> gallery.isLent(0, 99));
        Checks.due("43 not the other's", false, () -> gallery.isLent(0, 0));
    }

    private static AvalancheGallery withOneExhibit() {
        AvalancheGallery gallery = new AvalancheGallery();
        gallery.addRoom(9);
        gallery.addExhibit(0, 0);
        return gallery;
    }
}
