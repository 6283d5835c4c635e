import java.util.Arrays;

/** The edges of promises 14 to 30 and of the terms of piles, toppling, lasting piles and slopes. */
final class PileBounds {
    private static final String EMPTY = "0000/0000/0000/0000";
    private static final String HIGHEST = "3333/3333/3333/3333";

    private PileBounds() {
    }

    static void run() {
        addExhibit();
        newExhibit();
        setLimit();
        drops();
        dropWhileLent();
        topplingsIf();
        readings();
        accounts();
        pileTerms();
        neighbours();
        toppling();
        topplingEnds();
        anyOrder();
        lasting();
        lastingSets();
        slopes();
        slopeLengths();
    }

    private static void addExhibit() {
        Document.promise(14, "Throws `IndexOutOfBoundsException`");
        Edges.index(0, Galleries.BARE, (g, room) -> g.addExhibit(room, 5));
        Edges.index(3, Galleries.LADEN, (g, room) -> g.addExhibit(room, 5));
        Edges.index(6, Galleries.joined(6), (g, room) -> g.addExhibit(room, 5));
        Document.promise(14, "Throws `IllegalArgumentException`");
        Edges.range(Edges.ARGUMENT, 0, 9, Galleries.LADEN, (g, limit) -> g.addExhibit(0, limit));
        Edges.range(Edges.ARGUMENT, 0, 9, Galleries.APART, (g, limit) -> g.addExhibit(3, limit));
        Document.promise(14, "Throws `IllegalStateException`");
        for (int count = 0; count < 5; count++) {
            int index = count;
            Checks.due("after " + count, index, () -> Galleries.exhibits(index).make().addExhibit(0, 9));
        }
        Edges.refused("a sixth exhibit", Edges.STATE, Galleries.FULL, g -> g.addExhibit(0, 0));
        Edges.refused("a sixth one elsewhere", Edges.STATE, Galleries.FULL, g -> g.addExhibit(5, 9));
        AvalancheGallery undone = Checks.withExhibits(5, 0, 9);
        undone.undo();
        Checks.due("again the fifth exhibit", 4, () -> undone.addExhibit(0, 3));
        Checks.state("again a sixth exhibit", () -> undone.addExhibit(0, 3));
    }

    // What was undone with an exhibit must not come back with the next one.
    private static void newExhibit() {
        Document.promise(14, "Adds an exhibit without grains");
        AvalancheGallery gallery = Checks.withRooms(9);
        String before = Galleries.view(gallery);
        gallery.addExhibit(0, 1);
        String added = Galleries.view(gallery);
        gallery.drop(0, 3, 3, 40);
        Galleries.takeLoan(gallery, 0, 1, 2, 3);
        gallery.ask(0, 4, 5, 6);
        gallery.passDays(1);
        for (int change = 0; change < 6; change++) {
            gallery.undo();
        }
        Checks.due("it is gone", before, () -> Galleries.view(gallery));
        gallery.addExhibit(0, 1);
        Checks.due("as new", added, () -> Galleries.view(gallery));
        Checks.due("without grains", EMPTY, () -> Checks.pileOf(gallery, 0));
        Checks.due("none dropped", 0, () -> gallery.dropped(0));
        Checks.due("none spilled", 0, () -> gallery.spilled(0));
        Checks.due("none melted", 0, () -> gallery.melted(0));
        Checks.due("no loan", 0, () -> gallery.takenCount(0) + gallery.askedCount(0));
    }

    private static void setLimit() {
        Document.promise(15, "Throws `IndexOutOfBoundsException`");
        Edges.exhibit((g, exhibit) -> g.setLimit(exhibit, 5));
        Document.promise(15, "Throws `IllegalArgumentException`");
        Edges.range(Edges.ARGUMENT, 0, 9, Galleries.LADEN, (g, limit) -> g.setLimit(1, limit));
        Edges.range(Edges.ARGUMENT, 0, 9, Galleries.FULL, (g, limit) -> g.setLimit(4, limit));
        Document.promise(15, "Sets the limit of the case");
        AvalancheGallery gallery = Checks.withExhibits(5, 4, 0);
        Checks.due("of the first", 4, () -> gallery.setLimit(0, 0));
        Checks.due("of the last", 4, () -> gallery.setLimit(4, 9));
        int[] due = {0, 4, 4, 4, 9};
        for (int exhibit = 0; exhibit < 5; exhibit++) {
            int index = exhibit;
            Checks.due("limit of " + exhibit, due[exhibit], () -> gallery.limit(index));
        }
        Document.promise(15, "Returns the previous limit");
        Checks.due("0 before", 0, () -> gallery.setLimit(0, 9));
        Checks.due("9 before", 9, () -> gallery.setLimit(0, 9));
        Checks.due("9 before again", 9, () -> gallery.setLimit(0, 0));
    }

    /** An act with a place and a number of grains. */
    private interface Drop {
        Object on(AvalancheGallery gallery, int exhibit, int x, int y, int grains);
    }

    private static void drops() {
        refusedDrops(16, AvalancheGallery::drop);
        refusedDrops(17, AvalancheGallery::topplingsIf);
        refusedDrops(18, AvalancheGallery::topplingsIfByRounds);
    }

    private static void refusedDrops(int promise, Drop drop) {
        Document.promise(promise, "Throws `IndexOutOfBoundsException`");
        Edges.exhibit((g, exhibit) -> drop.on(g, exhibit, 3, 3, 9));
        Document.promise(promise, "Throws `IllegalArgumentException`");
        for (int edge : new int[] {0, 3}) {
            Edges.range(Edges.ARGUMENT, 0, 3, Galleries.LADEN, (g, x) -> drop.on(g, 1, x, edge, 5));
            Edges.range(Edges.ARGUMENT, 0, 3, Galleries.LADEN, (g, y) -> drop.on(g, 0, edge, y, 5));
            Edges.range(Edges.ARGUMENT, 1, 40, Galleries.LADEN, (g, grains) -> drop.on(g, 1, edge, 3 - edge, grains));
        }
        Edges.range(Edges.ARGUMENT, 1, 40, Galleries.FULL, (g, grains) -> drop.on(g, 4, 1, 2, grains));
    }

    private static void dropWhileLent() {
        Document.promise(16, "whether it is lent or not");
        AvalancheGallery gallery = Checks.withPile(HIGHEST);
        AvalancheGallery lent = Checks.withPile(HIGHEST);
        Galleries.takeLoan(lent, 0, 0, 99, 1);
        Checks.due("it is lent", true, () -> lent.isLent(0, lent.day()));
        Object due = gallery.drop(0, 1, 2, 40);
        Checks.due("while it is lent", due, () -> lent.drop(0, 1, 2, 40));
        Checks.due("the same pile", Checks.pileOf(gallery, 0), () -> Checks.pileOf(lent, 0));
        Checks.due("topplingsIf, too", gallery.topplingsIf(0, 0, 0, 9), () -> lent.topplingsIf(0, 0, 0, 9));
    }

    private static void topplingsIf() {
        Document.promise(17, "computed place by place");
        dueTopplings(AvalancheGallery::topplingsIf);
        Document.promise(18, "Returns the same as topplingsIf");
        dueTopplings(AvalancheGallery::topplingsIfByRounds);
    }

    private static void dueTopplings(Drop act) {
        int[] due = {0, 0, 0, 1, 1, 1, 1, 2, 2, 2, 2, 3, 3, 3, 3};
        for (int grains = 1; grains <= 15; grains++) {
            int number = grains;
            Checks.due(number + " inside", due[grains - 1], () -> act.on(Checks.withPile(EMPTY), 0, 1, 1, number));
            Checks.due(number + " in a corner", due[grains - 1], () -> act.on(Checks.withPile(EMPTY), 0, 3, 0, number));
        }
        AvalancheGallery gallery = Checks.withPile(HIGHEST);
        String before = Galleries.view(gallery) + gallery.undoCount();
        for (int place = 0; place < 16; place++) {
            act.on(gallery, 0, place % 4, place / 4, 40);
        }
        Checks.due("nothing is dropped", before, () -> Galleries.view(gallery) + gallery.undoCount());
        Checks.due("a place that is full", 1, () -> act.on(Checks.withPile("0000/0000/0000/0003"), 0, 3, 3, 1));
        Checks.due("a place with room", 0, () -> act.on(Checks.withPile("0000/0000/0000/0002"), 0, 3, 3, 1));
        Checks.due("beside a full one", 2, () -> act.on(Checks.withPile("0000/0000/0000/0033"), 0, 3, 3, 1));
        Checks.due("beside one that is not", 1, () -> act.on(Checks.withPile("0000/0000/0000/0023"), 0, 3, 3, 1));
    }

    private static void readings() {
        Document.promise(19, "Returns the number of exhibits");
        for (int count = 0; count <= 5; count++) {
            int exhibits = count;
            Checks.due("exhibitCount", exhibits, () -> Galleries.exhibits(exhibits).make().exhibitCount());
        }
        indexOf(20, AvalancheGallery::roomOf);
        indexOf(21, AvalancheGallery::limit);
        indexOf(22, (g, exhibit) -> g.grainsAt(exhibit, 3, 3));
        indexOf(23, AvalancheGallery::grains);
        indexOf(24, AvalancheGallery::lasts);
        indexOf(25, AvalancheGallery::lastsByToppling);
        indexOf(26, AvalancheGallery::longestSlope);
        indexOf(27, AvalancheGallery::longestSlopeByGrains);
        indexOf(28, AvalancheGallery::dropped);
        indexOf(29, AvalancheGallery::spilled);
        indexOf(30, AvalancheGallery::melted);
        Document.promise(20, "Returns the room of an exhibit");
        AvalancheGallery gallery = Galleries.APART.make();
        Checks.due("in room 0", 0, () -> gallery.roomOf(0));
        Checks.due("in room 2", 2, () -> gallery.roomOf(1));
        Checks.refused("no way", () -> gallery.send(1, 0));
        Checks.due("it stays there", 2, () -> gallery.roomOf(1));
        Document.promise(21, "Returns the limit of the case");
        for (int limit = 0; limit <= 9; limit++) {
            int due = limit;
            Checks.due("limit", due, () -> Checks.withExhibits(5, due, 0).limit(4));
        }
        grainsAt();
    }

    private static void indexOf(int promise, Edges.ActWith act) {
        Document.promise(promise, "Throws `IndexOutOfBoundsException`");
        Edges.exhibit(act);
    }

    private static void grainsAt() {
        Document.promise(22, "Throws `IllegalArgumentException`");
        for (int edge : new int[] {0, 3}) {
            Edges.range(Edges.ARGUMENT, 0, 3, Galleries.LADEN, (g, x) -> g.grainsAt(1, x, edge));
            Edges.range(Edges.ARGUMENT, 0, 3, Galleries.FULL, (g, y) -> g.grainsAt(4, edge, y));
        }
        Document.promise(22, "Returns the number of grains in a place");
        AvalancheGallery gallery = Checks.withPile("1002/0000/0000/3000");
        Checks.due("the first", 1, () -> gallery.grainsAt(0, 0, 0));
        Checks.due("the greatest x", 2, () -> gallery.grainsAt(0, 3, 0));
        Checks.due("the greatest y", 3, () -> gallery.grainsAt(0, 0, 3));
        Checks.due("the last", 0, () -> gallery.grainsAt(0, 3, 3));
        Document.promise(23, "Returns the number of all grains");
        Checks.due("none", 0, () -> Checks.withPile(EMPTY).grains(0));
        Checks.due("the most", 48, () -> Checks.withPile(HIGHEST).grains(0));
        Checks.due("in the last place alone", 1, () -> Checks.withPile("0000/0000/0000/0001").grains(0));
    }

    private static void dueAccount(AvalancheGallery gallery, int dropped, int spilled, int melted) {
        Document.promise(28, "were dropped on an exhibit so far");
        Checks.due("dropped", dropped, () -> gallery.dropped(0));
        Document.promise(29, "that were spilled so far");
        Checks.due("spilled", spilled, () -> gallery.spilled(0));
        Document.promise(30, "that melted so far");
        Checks.due("melted", melted, () -> gallery.melted(0));
    }

    private static void accounts() {
        AvalancheGallery gallery = Checks.withPile(EMPTY);
        dueAccount(gallery, 0, 0, 0);
        gallery.drop(0, 0, 0, 1);
        dueAccount(gallery, 1, 0, 0);
        gallery.drop(0, 0, 0, 2);
        dueAccount(gallery, 3, 0, 0);
        gallery.drop(0, 0, 0, 1);
        dueAccount(gallery, 4, 2, 0);
        gallery.passDays(1);
        dueAccount(gallery, 4, 2, 2);
        gallery.passDays(1);
        dueAccount(gallery, 4, 2, 2);
        gallery.drop(0, 1, 3, 4);
        dueAccount(gallery, 8, 3, 2);
        gallery.topplingsIf(0, 0, 0, 40);
        dueAccount(gallery, 8, 3, 2);
        gallery.undo();
        dueAccount(gallery, 4, 2, 2);
        gallery.undo();
        gallery.undo();
        dueAccount(gallery, 4, 2, 0);
        gallery.undo();
        dueAccount(gallery, 3, 0, 0);
    }

    private static void pileTerms() {
        Document.term("There are at most 5 exhibits");
        AvalancheGallery gallery = Checks.withRooms(0, 0, 0, 0, 0);
        for (int exhibit = 0; exhibit < 5; exhibit++) {
            int index = exhibit;
            Checks.due("exhibit " + exhibit, index, () -> gallery.addExhibit(4 - index, index));
        }
        Checks.state("a sixth", () -> gallery.addExhibit(0, 0));
        for (int exhibit = 0; exhibit < 5; exhibit++) {
            int index = exhibit;
            Checks.due("in their order", 4 - index, () -> gallery.roomOf(index));
        }
        Document.term("a square of 4 by 4 places");
        for (int place = 0; place < 16; place++) {
            int x = place % 4;
            int y = place / 4;
            Checks.due("at first", 0, () -> Checks.withPile(EMPTY).grainsAt(0, x, y));
            AvalancheGallery one = Checks.withPile(EMPTY);
            one.drop(0, x, y, 3);
            Checks.due("its own number", 3, () -> one.grainsAt(0, x, y));
            Checks.due("and in no other place", 3, () -> one.grains(0));
        }
    }

    private static boolean areNeighbours(int one, int other) {
        return Math.abs(one % 4 - other % 4) + Math.abs(one / 4 - other / 4) == 1;
    }

    /** A pile whose places all have the first number but for two, which have the others. */
    private static String pileWith(int rest, int one, int grainsOfOne, int other, int grainsOfOther) {
        StringBuilder rows = new StringBuilder();
        for (int place = 0; place < 16; place++) {
            rows.append(place > 0 && place % 4 == 0 ? "/" : "");
            rows.append(place == one ? grainsOfOne : place == other ? grainsOfOther : rest);
        }
        return rows.toString();
    }

    // Each pair of places: the first of a row is no neighbour of the last of the row before, and a corner is no side.
    private static void neighbours() {
        Document.term("Two places are neighbours if");
        for (int one = 0; one < 16; one++) {
            AvalancheGallery toppled = Checks.withPile(EMPTY);
            toppled.drop(0, one % 4, one / 4, 4);
            for (int other = 0; other < 16; other++) {
                boolean near = areNeighbours(one, other);
                int x = other % 4;
                int y = other / 4;
                String what = one + " and " + other;
                Checks.due(what + " topple", near ? 1 : 0, () -> toppled.grainsAt(0, x, y));
                if (one != other) {
                    AvalancheGallery slope = Checks.withPile(pileWith(3, one, 2, other, 1));
                    Checks.due(what + " slope", near ? 3 : 2, () -> slope.longestSlope(0));
                    Checks.due(what + " by grains", near ? 3 : 2, () -> slope.longestSlopeByGrains(0));
                    AvalancheGallery lasting = Checks.withPile(pileWith(3, one, 0, other, 0));
                    Checks.due(what + " last", !near, () -> lasting.lasts(0));
                    Checks.due(what + " last by toppling", !near, () -> lasting.lastsByToppling(0));
                }
            }
        }
    }

    private static void toppling() {
        Document.term("A place with 4 grains or more topples");
        for (int place = 0; place < 16; place++) {
            int sides = 0;
            for (int other = 0; other < 16; other++) {
                sides += areNeighbours(place, other) ? 1 : 0;
            }
            for (int grains = 1; grains <= 7; grains++) {
                dueToppling(place, grains, 4 - sides);
            }
        }
    }

    private static void dueToppling(int place, int grains, int open) {
        boolean topples = grains >= 4;
        AvalancheGallery gallery = Checks.withPile(EMPTY);
        String what = grains + " grains in place " + place;
        Checks.due(what + " topple", topples ? 1 : 0, () -> gallery.drop(0, place % 4, place / 4, grains));
        Checks.due(what + " stay", topples ? grains - 4 : grains, () -> gallery.grainsAt(0, place % 4, place / 4));
        Checks.due(what + " spill", topples ? open : 0, () -> gallery.spilled(0));
        Checks.due(what + " are in the pile", topples ? grains - open : grains, () -> gallery.grains(0));
    }

    private static void topplingEnds() {
        Document.term("places topple until all places have at most 3 grains");
        for (int place = 0; place < 16; place++) {
            for (int grains : new int[] {1, 4, 39, 40}) {
                AvalancheGallery gallery = Checks.withPile(HIGHEST);
                gallery.drop(0, place % 4, place / 4, grains);
                Checks.due("at most 3", true, () -> Checks.pileOf(gallery, 0).matches("[0-3/]*"));
                Checks.due("the rest spilled", 48 + grains, () -> gallery.grains(0) + gallery.spilled(0));
            }
        }
        AvalancheGallery three = Checks.withPile("3303/3003/0000/3333");
        Checks.due("three is no reason", 0, () -> three.drop(0, 2, 0, 3));
        Checks.due("all stay", "3333/3003/0000/3333", () -> Checks.pileOf(three, 0));
        Checks.due("four in a row", 4, () -> three.drop(0, 0, 3, 1));
    }

    /** Topples the last place that can, again and again: the topplings, the spilled grains and the pile. */
    private static String fromTheEnd(int[] pile) {
        int before = Arrays.stream(pile).sum();
        int topplings = 0;
        for (int place = 15; place >= 0; place--) {
            if (pile[place] >= 4) {
                pile[place] -= 4;
                for (int other = 0; other < 16; other++) {
                    pile[other] += areNeighbours(place, other) ? 1 : 0;
                }
                topplings++;
                place = 16;
            }
        }
        StringBuilder rows = new StringBuilder();
        for (int place = 0; place < 16; place++) {
            rows.append(place > 0 && place % 4 == 0 ? "/" : "").append(pile[place]);
        }
        return topplings + " " + (before - Arrays.stream(pile).sum()) + " " + rows;
    }

    private static void anyOrder() {
        Document.term("do not depend on the order in which places topple");
        for (int start : new int[] {0, 2, 3}) {
            for (int place = 0; place < 16; place++) {
                for (int grains : new int[] {4, 16, 40}) {
                    int[] pile = new int[16];
                    Arrays.fill(pile, start);
                    pile[place] += grains;
                    dueInAnyOrder(pileWith(start, 0, start, 0, start), place, grains, fromTheEnd(pile));
                }
            }
        }
    }

    private static void dueInAnyOrder(String rows, int place, int grains, String due) {
        AvalancheGallery gallery = Checks.withPile(rows);
        int topplings = Integer.parseInt(due.split(" ")[0]);
        int x = place % 4;
        int y = place / 4;
        Checks.due("by places", topplings, () -> gallery.topplingsIf(0, x, y, grains));
        Checks.due("by rounds", topplings, () -> gallery.topplingsIfByRounds(0, x, y, grains));
        Checks.due("when dropped", due, () -> gallery.drop(0, x, y, grains) + " " + gallery.spilled(0) + " "
                + Checks.pileOf(gallery, 0));
    }

    private static void dueLasting(String rows, boolean lasts) {
        AvalancheGallery gallery = Checks.withPile(rows);
        Document.promise(24, "it lasts if all burn");
        Checks.due("lasts " + rows, lasts, () -> gallery.lasts(0));
        Document.promise(25, "the pile lasts if each place topples exactly once");
        Checks.due("lastsByToppling " + rows, lasts, () -> gallery.lastsByToppling(0));
        Document.promise(24, "Returns true if it lasts");
        Checks.due("lasts again " + rows, lasts, () -> gallery.lasts(0));
        Document.promise(25, "Returns true if it lasts");
        Checks.due("the pile stays", rows, () -> Checks.pileOf(gallery, 0));
    }

    // Of each pair of piles the second one has one grain more, which is as many as neighbours in the set.
    private static void lasting() {
        dueLasting(EMPTY, false);
        dueLasting(HIGHEST, true);
        dueLasting("1221/2332/2332/1221", false);
        dueLasting("2221/2332/2332/1221", true);
        dueLasting("1221/2332/2332/1222", true);
        dueLasting("1133/1133/3333/3333", false);
        dueLasting("2133/1133/3333/3333", true);
        dueLasting("1133/1233/3333/3333", true);
        dueLasting("3333/3333/3333/3300", false);
        dueLasting("3333/3333/3333/3310", true);
        dueLasting("3333/3333/3333/3301", true);
        dueLasting("0333/3333/3333/3333", true);
        dueLasting("3333/3303/3033/3333", true);
        dueLasting("3333/3003/3333/3333", false);
        dueLasting("3333/3013/3333/3333", true);
    }

    private static boolean lastsByItsSets(int[] pile) {
        int[] beside = new int[16];
        for (int one = 0; one < 16; one++) {
            for (int other = 0; other < 16; other++) {
                beside[one] |= areNeighbours(one, other) ? 1 << other : 0;
            }
        }
        for (int set = 1; set < 1 << 16; set++) {
            boolean allFewer = true;
            for (int place = 0; place < 16 && allFewer; place++) {
                allFewer = (set >> place & 1) == 0 || pile[place] < Integer.bitCount(beside[place] & set);
            }
            if (allFewer) {
                return false;
            }
        }
        return true;
    }

    private static void lastingSets() {
        Document.term("A pile lasts if no set of places that is not empty exists");
        int[] weights = {1, 2, 1, 2, 2, 3, 1, 1};
        int lasting = 0;
        int seed = 1;
        for (int number = 0; number < 120; number++) {
            int[] pile = new int[16];
            for (int place = 0; place < 16; place++) {
                seed = seed * 1103515245 + 12345;
                pile[place] = weights[seed >>> 16 & 7];
            }
            boolean due = lastsByItsSets(pile);
            lasting += due ? 1 : 0;
            AvalancheGallery gallery = Checks.withExhibits(1, 0, 0);
            for (int place = 0; place < 16; place++) {
                gallery.drop(0, place % 4, place / 4, pile[place]);
            }
            Checks.due("by all sets", due, () -> gallery.lasts(0));
            Checks.due("by all sets and toppling", due, () -> gallery.lastsByToppling(0));
        }
        int count = lasting;
        Checks.due("both kinds of piles, " + count + " of 120 last", true, () -> count > 30 && count < 90);
    }

    private static void dueSlope(String rows, int length) {
        AvalancheGallery gallery = Checks.withPile(rows);
        Checks.due("longestSlope " + rows, length, () -> gallery.longestSlope(0));
        Checks.due("longestSlopeByGrains " + rows, length, () -> gallery.longestSlopeByGrains(0));
    }

    private static void slopes() {
        Document.term("each place but the first one is a neighbour of the one before and has fewer grains");
        dueSlope(EMPTY, 1);
        dueSlope(HIGHEST, 1);
        dueSlope("1111/1111/1111/1111", 1);
        dueSlope("0000/0000/0000/0001", 2);
        dueSlope("1000/0000/0000/0000", 2);
        dueSlope("3333/3333/3333/3332", 2);
        // Equal numbers end a slope, and so does a corner.
        dueSlope("3220/0000/0000/0000", 3);
        dueSlope("3331/2222/2222/2222", 2);
        dueSlope("3333/2222/2222/1111", 2);
        dueSlope("3000/0200/0010/0000", 2);
    }

    private static void slopeLengths() {
        Document.term("Its length is the number of its places");
        Document.promise(26, "computed by recursion from each place");
        dueSlope("2000/0000/0000/0000", 2);
        dueSlope("2100/0000/0000/0000", 3);
        dueSlope("3210/3333/3333/3333", 4);
        Document.promise(27, "for the places with the fewest grains first");
        dueSlope("3333/3333/3333/0123", 4);
        dueSlope("3333/3323/3313/3303", 4);
        dueSlope("3200/0100/0000/0000", 4);
        dueSlope("0000/0000/0001/0032", 4);
        dueSlope("3020/2010/1000/0000", 4);
    }
}
