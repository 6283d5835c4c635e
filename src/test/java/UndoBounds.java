import java.util.ArrayList;
import java.util.List;

/** The edges of promises 57 to 60 and of the terms of undo. */
final class UndoBounds {
    private UndoBounds() {
    }

    static void run() {
        undoRefused();
        undo();
        undoCount();
        changes();
        noChanges();
        latestEight();
        changedAfterUndo();
        unaffected();
        exceptionsChangeNothing();
        severalConditions();
        save();
        savedEverything();
        restoreRefused();
        restore();
        afterRestore();
    }

    /** Each kind of change; each of them succeeds in the gallery LADEN and is seen in it. */
    private static List<Edges.Act> kinds() {
        List<Edges.Act> kinds = new ArrayList<>();
        kinds.add(g -> g.addRoom(7));
        kinds.add(g -> g.setWarmth(1, 9));
        kinds.add(g -> g.setLeg(2, 1, 99, 9));
        kinds.add(g -> g.removeLeg(0, 1));
        kinds.add(g -> g.addExhibit(1, 9));
        kinds.add(g -> g.setLimit(0, 9));
        kinds.add(g -> g.drop(0, 2, 2, 40));
        kinds.add(g -> g.send(0, 2));
        kinds.add(g -> g.ask(1, 90, 99, 98));
        kinds.add(g -> g.takeBest(0));
        kinds.add(g -> g.passDays(3));
        kinds.add(g -> {
            Checks.answerOf(g::execute);
            Checks.feed(g, "room 1;day 1;take 1");
            return g.execute();
        });
        return kinds;
    }

    private static void undoRefused() {
        Document.promise(57, "Throws `IllegalStateException`");
        Edges.refused("no change", Edges.STATE, Galleries.BARE, AvalancheGallery::undo);
        Galleries.Recipe restored = () -> {
            AvalancheGallery gallery = Galleries.LADEN.make();
            gallery.restore();
            return gallery;
        };
        Edges.refused("restored", Edges.STATE, restored, AvalancheGallery::undo);
        for (int count = 1; count <= 12; count++) {
            AvalancheGallery gallery = Checks.withRooms(0);
            for (int change = 1; change < count; change++) {
                gallery.setWarmth(0, change % 10);
            }
            for (int left = Math.min(8, count) - 1; left >= 0; left--) {
                int due = left;
                Checks.due("undo", due, gallery::undo);
            }
            Checks.state(count + " changes, all undone that can be", gallery::undo);
            Checks.state("and again", gallery::undo);
        }
    }

    private static void undo() {
        Document.promise(57, "Undoes the latest change that is not undone");
        int kind = 0;
        for (Edges.Act change : kinds()) {
            String what = "kind " + kind++;
            AvalancheGallery gallery = Galleries.LADEN.make();
            String before = Galleries.view(gallery);
            String answer = Checks.answerOf(() -> change.on(gallery));
            String after = Galleries.view(gallery);
            Checks.due(what + " is seen", false, () -> after.equals(before));
            Checks.due(what + " is undone", 7, gallery::undo);
            Checks.due(what + " is gone", before, () -> Galleries.view(gallery));
            Checks.due(what + " answers the same again", answer, () -> change.on(gallery));
            Checks.due(what + " does the same again", after, () -> Galleries.view(gallery));
        }
        AvalancheGallery gallery = Galleries.LADEN.make();
        List<String> views = new ArrayList<>();
        for (Edges.Act change : kinds()) {
            views.add(Galleries.view(gallery));
            Checks.answerOf(() -> change.on(gallery));
        }
        for (int left = 7; left >= 0; left--) {
            int due = left;
            Checks.due("one after the other", due, gallery::undo);
            Checks.due("as before it", views.get(views.size() - 8 + left), () -> Galleries.view(gallery));
        }
        Checks.state("no more", gallery::undo);
    }

    private static void undoCount() {
        Document.promise(58, "Returns the number of changes, at most 8");
        AvalancheGallery gallery = new AvalancheGallery();
        Checks.due("at first", 0, gallery::undoCount);
        for (int change = 1; change <= 20; change++) {
            gallery.passDays(1);
            int due = Math.min(8, change);
            Checks.due("after " + change, due, gallery::undoCount);
        }
        for (int left = 7; left >= 0; left--) {
            int due = left;
            gallery.undo();
            Checks.due("undone", due, gallery::undoCount);
        }
        Checks.state("none", gallery::undo);
        Checks.due("still none", 0, gallery::undoCount);
        Checks.due("the day", 12, gallery::day);
    }

    private static void changes() {
        Document.term("A successful call of addRoom, setWarmth");
        int kind = 0;
        for (Edges.Act change : kinds()) {
            String what = "kind " + kind++;
            AvalancheGallery gallery = Galleries.LADEN.make();
            String answer = Checks.answerOf(() -> change.on(gallery));
            Checks.due(what + " succeeds: " + answer, false, () -> answer.startsWith("throws"));
            Checks.due(what + " is one change", 8, gallery::undoCount);
        }
        AvalancheGallery same = Checks.withExhibits(1, 0, 4, 5);
        same.setLeg(0, 1, 5, 5);
        same.setWarmth(0, 4);
        same.setLimit(0, 0);
        same.setLeg(0, 1, 5, 5);
        same.send(0, 0);
        Checks.due("a change may leave all as it is", 8, same::undoCount);
        same.undo();
        same.undo();
        same.undo();
        Checks.due("three less", 5, same::undoCount);
        Checks.due("nothing to be seen", 5, () -> same.legMinutes(1, 0));
    }

    // Everything that is no change and answers; what throws is looked at by the promises' own tests.
    private static void noChanges() {
        Document.term("A successful call of addRoom, setWarmth");
        List<Edges.Act> calls = new ArrayList<>(List.of(AvalancheGallery::roomCount, g -> g.warmth(0),
                g -> g.legMinutes(0, 1), g -> g.legWarmth(1, 2), g -> g.minutes(0, 2), g -> g.minutesByTable(2, 0)));
        calls.addAll(List.of(g -> g.wayLegs(0, 1), g -> g.wayRoom(0, 1, 1), g -> g.topplingsIf(0, 1, 1, 40),
                g -> g.topplingsIfByRounds(0, 1, 1, 40), AvalancheGallery::exhibitCount, g -> g.roomOf(1)));
        calls.addAll(List.of(g -> g.limit(0), g -> g.grainsAt(0, 3, 3), g -> g.grains(1), g -> g.lasts(0),
                g -> g.lastsByToppling(0), g -> g.longestSlope(0), g -> g.longestSlopeByGrains(0)));
        calls.addAll(List.of(g -> g.dropped(0), g -> g.spilled(0), g -> g.melted(0), g -> g.meltIfSent(0, 2),
                g -> g.leastPassed(0, 2), g -> g.leastPassedByRounds(0, 2), AvalancheGallery::day));
        calls.addAll(List.of(g -> g.askedCount(0), g -> g.takenCount(0), g -> g.bestFees(0),
                g -> g.bestFeesByTrials(0), g -> g.isLent(0, 5), AvalancheGallery::income));
        calls.addAll(List.of(AvalancheGallery::refusalReason, AvalancheGallery::refusalDetail,
                AvalancheGallery::meanGrains, AvalancheGallery::lentFraction, g -> g.writePile(1),
                g -> g.writeWay(1, 2), g -> g.outputCharacter(0), AvalancheGallery::isConsistent));
        calls.addAll(List.of(g -> g.feed('1'), AvalancheGallery::errorPosition, AvalancheGallery::failedCommand,
                AvalancheGallery::undoCount, AvalancheGallery::save));
        for (int call = 0; call < calls.size(); call++) {
            Edges.Act act = calls.get(call);
            AvalancheGallery gallery = Galleries.LADEN.make();
            String due = Edges.afterUndo(Galleries.LADEN.make(), 7);
            String answer = Checks.answerOf(() -> act.on(gallery));
            Checks.due("call " + call + " answers: " + answer, false, () -> answer.startsWith("throws"));
            Checks.due("call " + call + " is no change", 7, gallery::undoCount);
            Checks.due("call " + call + " changes nothing", due, () -> Edges.afterUndo(gallery, 7));
        }
    }

    private static void latestEight() {
        Document.term("At most the latest 8 changes that are not undone can be undone");
        for (int count = 7; count <= 30; count++) {
            AvalancheGallery gallery = new AvalancheGallery();
            for (int change = 0; change < count; change++) {
                gallery.passDays(1);
            }
            int most = Math.min(8, count);
            for (int step = 1; step <= most; step++) {
                int left = most - step;
                int day = count - step;
                Checks.due("undo " + step + " of " + count, left, gallery::undo);
                Checks.due("day", day, gallery::day);
            }
            Checks.state("no more of " + count, gallery::undo);
            int rest = count - most;
            Checks.due("the rest stays", rest, gallery::day);
        }
    }

    // What was undone is given up by the next change; it neither comes back nor counts.
    private static void changedAfterUndo() {
        Document.term("At most the latest 8 changes that are not undone can be undone");
        for (int undone = 1; undone <= 8; undone++) {
            AvalancheGallery gallery = Checks.withRooms(0);
            for (int change = 0; change < 10; change++) {
                gallery.passDays(1);
            }
            for (int step = 0; step < undone; step++) {
                gallery.undo();
            }
            int count = 9 - undone;
            int day = 10 - undone;
            gallery.setWarmth(0, 7);
            Checks.due("undone " + undone + " and one more", count, gallery::undoCount);
            Checks.due("the latest one first", count - 1, gallery::undo);
            Checks.due("warmth", 0, () -> gallery.warmth(0));
            Checks.due("day", day, gallery::day);
            gallery.setWarmth(0, 8);
            for (int left = count - 1; left >= 0; left--) {
                int due = left;
                Checks.due("then the ones before", due, gallery::undo);
            }
            Checks.due("as far back as could be gone", 2, gallery::day);
            Checks.state("no more", gallery::undo);
        }
    }

    /** An output, a refusal, an error position, a failed command and the beginning of a text. */
    private static AvalancheGallery traced() {
        AvalancheGallery gallery = Galleries.LADEN.make();
        Checks.answerOf(gallery::execute);
        gallery.setLimit(1, 9);
        gallery.drop(0, 0, 0, 1);
        gallery.writePile(0);
        Checks.feed(gallery, "day ");
        return gallery;
    }

    private static void unaffected() {
        Document.term("The input buffer, the output, the error position, the failed command and the latest refusal");
        String due = Edges.kept(traced()).substring(1);
        Checks.due("all of them are there: " + due, true, () -> due.matches(" 1 0 6 1 [0-3]{4}/.*_{6}"));
        for (int steps = 1; steps <= 8; steps++) {
            AvalancheGallery undone = traced();
            for (int step = 0; step < steps; step++) {
                undone.undo();
            }
            dueUnaffected("undone " + steps, due, undone);
        }
        AvalancheGallery saved = traced();
        saved.save();
        dueUnaffected("saved", due, saved);
        AvalancheGallery restored = traced();
        restored.restore();
        dueUnaffected("restored", due, restored);
    }

    private static void dueUnaffected(String what, String due, AvalancheGallery gallery) {
        Checks.due(what, due, () -> Edges.kept(gallery).substring(1));
        int day = gallery.day();
        Checks.due(what + ", the buffer", 5, () -> gallery.feed('3'));
        Checks.due(what + ", its text", 1, gallery::execute);
        Checks.due(what + ", its days", day + 3, gallery::day);
    }

    private static void exceptionsChangeNothing() {
        Document.term("A call that throws an exception changes nothing, unless its description says otherwise");
        Edges.refused("addRoom", Edges.ARGUMENT, Galleries.LADEN, g -> g.addRoom(10));
        Edges.refused("setWarmth", Edges.ARGUMENT, Galleries.LADEN, g -> g.setWarmth(0, 10));
        Edges.refused("setLeg", Edges.ARGUMENT, Galleries.LADEN, g -> g.setLeg(0, 1, 5, 10));
        Edges.refused("removeLeg", Edges.MISSING, Galleries.APART, g -> g.removeLeg(0, 2));
        Edges.refused("addExhibit", Edges.STATE, Galleries.FULL, g -> g.addExhibit(0, 0));
        Edges.refused("setLimit", Edges.ARGUMENT, Galleries.LADEN, g -> g.setLimit(0, 10));
        Edges.refused("drop", Edges.ARGUMENT, Galleries.LADEN, g -> g.drop(0, 0, 0, 41));
        Edges.refused("send", Edges.INDEX, Galleries.LADEN, g -> g.send(0, 3));
        Edges.refused("ask", Edges.STATE, Galleries.FULL, g -> g.ask(0, 0, 0, 1));
        Edges.refused("takeBest", Edges.STATE, Galleries.APART, g -> g.takeBest(0));
        Edges.refused("passDays", Edges.ARGUMENT, Galleries.LADEN, g -> g.passDays(100));
        Edges.refused("writePile", Edges.INDEX, Galleries.LADEN, g -> g.writePile(2));
        Edges.refused("writeWay", Edges.MISSING, Galleries.APART, g -> g.writeWay(0, 2));
        Edges.refused("feed", Edges.STATE, Galleries.FULL, g -> g.feed('1'));
        Edges.refused("undo", Edges.STATE, Galleries.BARE, AvalancheGallery::undo);
        Edges.refused("restore", Edges.STATE, Galleries.BARE, AvalancheGallery::restore);
    }

    private static void severalConditions() {
        Document.term("If several conditions for exceptions hold, the one that is listed first decides");
        Edges.refused("addRoom", Edges.ARGUMENT, Galleries.FULL, g -> g.addRoom(10));
        Edges.refused("setWarmth", Edges.INDEX, Galleries.FULL, g -> g.setWarmth(6, 10));
        Edges.refused("setLeg", Edges.INDEX, Galleries.FULL, g -> g.setLeg(6, 6, 0, 10));
        Edges.refused("setLeg, the other one", Edges.INDEX, Galleries.FULL, g -> g.setLeg(0, -1, 100, -1));
        Edges.refused("removeLeg", Edges.INDEX, Galleries.APART, g -> g.removeLeg(2, 4));
        Edges.refused("legMinutes", Edges.INDEX, Galleries.APART, g -> g.legMinutes(-1, 2));
        Edges.refused("legWarmth", Edges.INDEX, Galleries.APART, g -> g.legWarmth(2, 4));
        Edges.refused("minutes", Edges.INDEX, Galleries.APART, g -> g.minutes(2, 4));
        Edges.refused("minutesByTable", Edges.INDEX, Galleries.APART, g -> g.minutesByTable(4, 2));
        Edges.refused("wayLegs", Edges.INDEX, Galleries.APART, g -> g.wayLegs(2, -1));
        Edges.refused("wayRoom", Edges.INDEX, Galleries.APART, g -> g.wayRoom(4, 2, 9));
        Edges.refused("addExhibit, all", Edges.INDEX, Galleries.FULL, g -> g.addExhibit(6, 10));
        Edges.refused("addExhibit, no limit", Edges.ARGUMENT, Galleries.FULL, g -> g.addExhibit(0, 10));
        Edges.refused("addExhibit, no room", Edges.INDEX, Galleries.FULL, g -> g.addExhibit(-1, 0));
        Edges.refused("setLimit", Edges.INDEX, Galleries.FULL, g -> g.setLimit(5, 10));
        Edges.refused("drop", Edges.INDEX, Galleries.FULL, g -> g.drop(5, 4, 4, 0));
        Edges.refused("topplingsIf", Edges.INDEX, Galleries.FULL, g -> g.topplingsIf(-1, -1, 0, 41));
        Edges.refused("topplingsIfByRounds", Edges.INDEX, Galleries.FULL, g -> g.topplingsIfByRounds(5, 0, 4, 0));
        Edges.refused("grainsAt", Edges.INDEX, Galleries.FULL, g -> g.grainsAt(5, 4, -1));
        Edges.refused("meltIfSent", Edges.INDEX, Galleries.APART, g -> g.meltIfSent(0, 4));
        Edges.refused("leastPassed", Edges.INDEX, Galleries.APART, g -> g.leastPassed(2, 3));
        Edges.refused("leastPassedByRounds", Edges.INDEX, Galleries.APART, g -> g.leastPassedByRounds(2, 4));
        Edges.refused("ask, all", Edges.INDEX, Galleries.FULL, g -> g.ask(5, 9, 8, 0));
        Edges.refused("ask, no fee", Edges.ARGUMENT, Galleries.FULL, g -> g.ask(0, 0, 0, 100));
        Edges.refused("takeBest", Edges.INDEX, Galleries.APART, g -> g.takeBest(2));
        Edges.refused("writeWay", Edges.INDEX, Galleries.APART, g -> g.writeWay(2, 4));
    }

    private static void save() {
        Document.promise(59, "Returns the number of exhibits");
        for (int count = 0; count <= 5; count++) {
            int exhibits = count;
            AvalancheGallery gallery = Galleries.exhibits(count).make();
            Checks.due("saved", exhibits, gallery::save);
            Checks.answerOf(() -> gallery.addExhibit(0, 1));
            Document.promise(60, "Returns the number of exhibits");
            Checks.due("restored", exhibits, gallery::restore);
            Checks.due("there are as many", exhibits, gallery::exhibitCount);
        }
        Document.promise(59, "in place of what was saved before");
        AvalancheGallery gallery = new AvalancheGallery();
        for (int days = 1; days <= 5; days++) {
            gallery.passDays(days);
            gallery.save();
        }
        gallery.passDays(9);
        gallery.restore();
        Checks.due("the latest", 15, gallery::day);
        gallery.restore();
        Checks.due("and no other", 15, gallery::day);
    }

    // Each kind of change after saving is taken back by restoring, as is what was done before the last saving.
    private static void savedEverything() {
        Document.promise(59, "Saves everything that changes can change");
        int kind = 0;
        for (Edges.Act change : kinds()) {
            String what = "kind " + kind++;
            AvalancheGallery gallery = Galleries.LADEN.make();
            gallery.save();
            String saved = Galleries.view(gallery);
            Checks.answerOf(() -> change.on(gallery));
            Checks.due(what + " is seen", false, () -> Galleries.view(gallery).equals(saved));
            gallery.restore();
            Checks.due(what + " is gone", saved, () -> Galleries.view(gallery));
            Checks.answerOf(() -> change.on(gallery));
            gallery.save();
            String changed = Galleries.view(gallery);
            gallery.undo();
            Checks.due(what + " is undone", saved, () -> Galleries.view(gallery));
            gallery.restore();
            Checks.due(what + " is back", changed, () -> Galleries.view(gallery));
        }
        // What the view tells of loans that are asked for is their best sum alone.
        AvalancheGallery loans = Checks.withExhibits(1, 9, 0);
        loans.ask(0, 1, 2, 3);
        loans.ask(0, 4, 5, 6);
        loans.save();
        loans.takeBest(0);
        loans.ask(0, 7, 8, 50);
        loans.restore();
        Checks.due("their fees", 9, () -> loans.takeBest(0));
        Checks.due("their first days", true, () -> loans.isLent(0, 1) && loans.isLent(0, 4));
        Checks.due("their last days", true, () -> loans.isLent(0, 2) && loans.isLent(0, 5));
        Checks.due("no other days", false, () -> loans.isLent(0, 0) || loans.isLent(0, 3) || loans.isLent(0, 6));
    }

    private static void restoreRefused() {
        Document.promise(60, "Throws `IllegalStateException`");
        Edges.refused("nothing was saved", Edges.STATE, Galleries.BARE, AvalancheGallery::restore);
        Edges.refused("nothing was saved", Edges.STATE, Galleries.exhibits(5), AvalancheGallery::restore);
        Galleries.Recipe undone = () -> {
            AvalancheGallery gallery = Galleries.exhibits(2).make();
            gallery.undo();
            return gallery;
        };
        Edges.refused("only undone", Edges.STATE, undone, AvalancheGallery::restore);
        AvalancheGallery gallery = new AvalancheGallery();
        Checks.state("nothing yet", gallery::restore);
        Checks.due("nothing at all is saved", 0, gallery::save);
        gallery.addRoom(5);
        Checks.due("and restored", 0, gallery::restore);
        Checks.due("no rooms", 0, gallery::roomCount);
    }

    private static void restore() {
        Document.promise(60, "Restores what was saved last, which stays saved");
        AvalancheGallery gallery = Galleries.LADEN.make();
        gallery.save();
        String saved = Galleries.view(gallery);
        for (int round = 0; round < 3; round++) {
            for (Edges.Act change : kinds()) {
                Checks.answerOf(() -> change.on(gallery));
            }
            Checks.due("changed", false, () -> Galleries.view(gallery).equals(saved));
            Checks.due("restored", 2, gallery::restore);
            Checks.due("as it was", saved, () -> Galleries.view(gallery));
        }
        Checks.due("restored once more", 2, gallery::restore);
        Checks.due("nothing is undone by that", saved, () -> Galleries.view(gallery));
    }

    private static void afterRestore() {
        Document.promise(60, "Afterwards no change can be undone");
        for (int changes = 0; changes <= 9; changes++) {
            AvalancheGallery gallery = new AvalancheGallery();
            gallery.save();
            for (int change = 0; change < changes; change++) {
                gallery.passDays(1);
            }
            gallery.restore();
            Checks.due("none", 0, gallery::undoCount);
            Checks.state("none", gallery::undo);
            gallery.passDays(5);
            Checks.due("only the later one", 1, gallery::undoCount);
            Checks.due("it is undone", 0, gallery::undo);
            Checks.due("back to what was restored", 0, gallery::day);
            Checks.state("and no further", gallery::undo);
        }
    }
}
