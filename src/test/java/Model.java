import java.util.ArrayDeque;
import java.util.ArrayList;
import java.util.Deque;
import java.util.List;
import java.util.NoSuchElementException;
import java.util.function.ToIntFunction;
import java.util.regex.Matcher;
import java.util.regex.Pattern;

/** The document once more, by trying everything: slow, and in nothing like the program. */
public final class Model {
    private static final String COMMAND = "(?:room (\\d)|leg (\\d)-(\\d) (\\d{1,2})\\*(\\d)|pile (\\d)\\*(\\d)"
            + "|drop (\\d) (\\d),(\\d)\\+(\\d{1,2})|send (\\d)>(\\d)"
            + "|ask (\\d) (\\d{1,2})-(\\d{1,2})\\+(\\d{1,2})|take (\\d)|day (\\d{1,2}))";
    private static final Pattern TEXT = Pattern.compile(COMMAND + "(?:;" + COMMAND + ")*");

    private record Leg(int one, int other, int minutes, int warmth) {
        boolean joins(int a, int b) {
            return one == a && other == b || one == b && other == a;
        }
    }

    private record Loan(int first, int last, int fee) {
        boolean meets(Loan other) {
            for (int day = first; day <= last; day++) {
                if (other.first <= day && day <= other.last) {
                    return true;
                }
            }
            return false;
        }
    }

    private static final class Case {
        int room;
        int limit;
        int[][] pile = new int[4][4];
        int dropped;
        int spilled;
        int melted;
        List<Loan> asked = new ArrayList<>();
        List<Loan> taken = new ArrayList<>();

        Case copy() {
            Case copy = new Case();
            copy.room = room;
            copy.limit = limit;
            copy.pile = copyOf(pile);
            copy.dropped = dropped;
            copy.spilled = spilled;
            copy.melted = melted;
            copy.asked = new ArrayList<>(asked);
            copy.taken = new ArrayList<>(taken);
            return copy;
        }
    }

    private static final class World {
        List<Integer> warmths = new ArrayList<>();
        List<Leg> legs = new ArrayList<>();
        List<Case> cases = new ArrayList<>();
        int day;
        int income;

        World copy() {
            World copy = new World();
            copy.warmths = new ArrayList<>(warmths);
            copy.legs = new ArrayList<>(legs);
            for (Case one : cases) {
                copy.cases.add(one.copy());
            }
            copy.day = day;
            copy.income = income;
            return copy;
        }
    }

    private World world = new World();
    private World savedWorld;
    private final Deque<World> past = new ArrayDeque<>();
    private boolean inText;
    private String input = "";
    private String output = "";
    private Integer reason;
    private Integer detail;
    private Integer error;
    private Integer failed;

    // Rooms and ways.

    public int addRoom(int warmth) {
        argument(warmth >= 0 && warmth <= 9);
        state(world.warmths.size() < 6);
        change();
        world.warmths.add(warmth);
        return world.warmths.size() - 1;
    }

    public int setWarmth(int room, int warmth) {
        room(room);
        argument(warmth >= 0 && warmth <= 9);
        change();
        return world.warmths.set(room, warmth);
    }

    public int setLeg(int one, int other, int minutes, int warmth) {
        room(one);
        room(other);
        argument(one != other && minutes >= 1 && minutes <= 99 && warmth >= 0 && warmth <= 9);
        change();
        world.legs.removeIf(leg -> leg.joins(one, other));
        world.legs.add(new Leg(one, other, minutes, warmth));
        return world.legs.size();
    }

    public int removeLeg(int one, int other) {
        legOf(one, other);
        change();
        world.legs.removeIf(leg -> leg.joins(one, other));
        return world.legs.size();
    }

    public int roomCount() {
        return world.warmths.size();
    }

    public int warmth(int room) {
        room(room);
        return world.warmths.get(room);
    }

    public int legMinutes(int one, int other) {
        return legOf(one, other).minutes;
    }

    public int legWarmth(int one, int other) {
        return legOf(one, other).warmth;
    }

    public int minutes(int from, int to) {
        return minutesOf(fastest(from, to));
    }

    public int minutesByTable(int from, int to) {
        return minutes(from, to);
    }

    public int wayLegs(int from, int to) {
        return fastest(from, to).size() - 1;
    }

    public int wayRoom(int from, int to, int place) {
        List<Integer> way = fastest(from, to);
        missing(place >= 0 && place < way.size());
        return way.get(place);
    }

    // Exhibits and piles.

    public int addExhibit(int room, int limit) {
        room(room);
        argument(limit >= 0 && limit <= 9);
        state(world.cases.size() < 5);
        change();
        Case added = new Case();
        added.room = room;
        added.limit = limit;
        world.cases.add(added);
        return world.cases.size() - 1;
    }

    public int setLimit(int exhibit, int limit) {
        exhibit(exhibit);
        argument(limit >= 0 && limit <= 9);
        change();
        Case it = exhibit(exhibit);
        int previous = it.limit;
        it.limit = limit;
        return previous;
    }

    public int drop(int exhibit, int x, int y, int grains) {
        dropCheck(exhibit, x, y, grains);
        change();
        Case it = exhibit(exhibit);
        it.pile[y][x] += grains;
        it.dropped += grains;
        int before = sum(it.pile);
        int topplings = topple(it.pile);
        it.spilled += before - sum(it.pile);
        return topplings;
    }

    public int topplingsIf(int exhibit, int x, int y, int grains) {
        dropCheck(exhibit, x, y, grains);
        int[][] pile = copyOf(exhibit(exhibit).pile);
        pile[y][x] += grains;
        return topple(pile);
    }

    public int topplingsIfByRounds(int exhibit, int x, int y, int grains) {
        return topplingsIf(exhibit, x, y, grains);
    }

    public int exhibitCount() {
        return world.cases.size();
    }

    public int roomOf(int exhibit) {
        return exhibit(exhibit).room;
    }

    public int limit(int exhibit) {
        return exhibit(exhibit).limit;
    }

    public int grainsAt(int exhibit, int x, int y) {
        exhibit(exhibit);
        argument(x >= 0 && x <= 3 && y >= 0 && y <= 3);
        return exhibit(exhibit).pile[y][x];
    }

    public int grains(int exhibit) {
        return sum(exhibit(exhibit).pile);
    }

    /** Tries all sets of places. */
    public boolean lasts(int exhibit) {
        int[][] pile = exhibit(exhibit).pile;
        for (int set = 1; set < 1 << 16; set++) {
            if (isForbidden(pile, set)) {
                return false;
            }
        }
        return true;
    }

    public boolean lastsByToppling(int exhibit) {
        return lasts(exhibit);
    }

    public int longestSlope(int exhibit) {
        int[][] pile = exhibit(exhibit).pile;
        int longest = 0;
        for (int place = 0; place < 16; place++) {
            for (int length = 1; length <= 4; length++) {
                if (hasSlope(pile, place, length)) {
                    longest = Math.max(longest, length);
                }
            }
        }
        return longest;
    }

    public int longestSlopeByGrains(int exhibit) {
        return longestSlope(exhibit);
    }

    public int dropped(int exhibit) {
        return exhibit(exhibit).dropped;
    }

    public int spilled(int exhibit) {
        return exhibit(exhibit).spilled;
    }

    public int melted(int exhibit) {
        return exhibit(exhibit).melted;
    }

    // Couriers and days.

    public int send(int exhibit, int to) {
        Case it = exhibit(exhibit);
        room(to);
        for (Loan loan : it.taken) {
            if (loan.first <= world.day && world.day <= loan.last) {
                refuse(1, loan.last);
            }
        }
        if (ways(it.room, to).isEmpty()) {
            refuse(2, it.room);
        }
        List<Integer> way = fastest(it.room, to);
        change();
        it = exhibit(exhibit);
        it.room = to;
        return meltOn(it, way);
    }

    public int meltIfSent(int exhibit, int to) {
        Case it = exhibit(exhibit).copy();
        room(to);
        return meltOn(it, fastest(it.room, to));
    }

    public int leastPassed(int exhibit, int to) {
        Case it = exhibit(exhibit);
        room(to);
        int least = Integer.MAX_VALUE;
        for (List<Integer> way : ways(it.room, to)) {
            least = Math.min(least, over(way, leg -> Math.max(0, leg.warmth - it.limit)));
        }
        missing(least != Integer.MAX_VALUE);
        return least;
    }

    public int leastPassedByRounds(int exhibit, int to) {
        return leastPassed(exhibit, to);
    }

    public int passDays(int days) {
        argument(days >= 1 && days <= 99);
        change();
        int melted = 0;
        for (int passed = 0; passed < days; passed++) {
            for (Case it : world.cases) {
                if (!lentOn(it, world.day)) {
                    melted += melt(it, world.warmths.get(it.room) - it.limit);
                }
            }
            world.day++;
        }
        return melted;
    }

    public int day() {
        return world.day;
    }

    // Loans.

    public int ask(int exhibit, int first, int last, int fee) {
        exhibit(exhibit);
        argument(first >= 0 && first <= 99 && last >= 0 && last <= 99 && first <= last && fee >= 1 && fee <= 99);
        state(exhibit(exhibit).asked.size() < 8);
        change();
        exhibit(exhibit).asked.add(new Loan(first, last, fee));
        return exhibit(exhibit).asked.size();
    }

    public int takeBest(int exhibit) {
        state(!exhibit(exhibit).asked.isEmpty());
        change();
        Case it = exhibit(exhibit);
        int fees = 0;
        for (int loan : bestChoice(it)) {
            it.taken.add(it.asked.get(loan));
            fees += it.asked.get(loan).fee;
        }
        it.asked.clear();
        world.income += fees;
        return fees;
    }

    public int askedCount(int exhibit) {
        return exhibit(exhibit).asked.size();
    }

    public int takenCount(int exhibit) {
        return exhibit(exhibit).taken.size();
    }

    public int bestFees(int exhibit) {
        Case it = exhibit(exhibit);
        return feesOf(it, bestChoice(it));
    }

    public int bestFeesByTrials(int exhibit) {
        return bestFees(exhibit);
    }

    public boolean isLent(int exhibit, int day) {
        return lentOn(exhibit(exhibit), day);
    }

    public int income() {
        return world.income;
    }

    // Refusals, statistics and output.

    public int refusalReason() {
        missing(reason != null);
        return reason;
    }

    public int refusalDetail() {
        missing(detail != null);
        return detail;
    }

    public double meanGrains() {
        arithmetic(!world.cases.isEmpty());
        double sum = 0;
        for (Case it : world.cases) {
            sum += sum(it.pile);
        }
        return sum / world.cases.size();
    }

    public float lentFraction() {
        arithmetic(!world.cases.isEmpty());
        float lent = 0;
        for (Case it : world.cases) {
            lent += lentOn(it, world.day) ? 1 : 0;
        }
        return lent / world.cases.size();
    }

    public int writePile(int exhibit) {
        List<String> rows = new ArrayList<>();
        for (int[] row : exhibit(exhibit).pile) {
            rows.add("" + row[0] + row[1] + row[2] + row[3]);
        }
        output = String.join("/", rows);
        return output.length();
    }

    public int writeWay(int from, int to) {
        List<Integer> way = fastest(from, to);
        List<String> rooms = new ArrayList<>();
        for (int room : way) {
            rooms.add("" + room);
        }
        output = String.join(">", rooms) + "=" + minutesOf(way);
        return output.length();
    }

    public char outputCharacter(int index) {
        index(index >= 0 && index < output.length());
        return output.charAt(index);
    }

    public boolean isConsistent() {
        return true;
    }

    // Commands, undo and saved state.

    public int feed(char character) {
        state(input.length() < 60);
        input += character;
        return input.length();
    }

    public int execute() {
        String text = input;
        input = "";
        if (!TEXT.matcher(text).matches()) {
            error = errorIn(text);
            throw new IllegalArgumentException();
        }
        World before = world.copy();
        String[] commands = text.split(";");
        inText = true;
        for (int command = 0; command < commands.length; command++) {
            try {
                run(commands[command]);
            } catch (RuntimeException e) {
                inText = false;
                world = before;
                failed = command;
                throw new UnsupportedOperationException();
            }
        }
        inText = false;
        remember(before);
        return commands.length;
    }

    public int errorPosition() {
        missing(error != null);
        return error;
    }

    public int failedCommand() {
        missing(failed != null);
        return failed;
    }

    public int undo() {
        state(!past.isEmpty());
        world = past.pop();
        return past.size();
    }

    public int undoCount() {
        return past.size();
    }

    public int save() {
        savedWorld = world.copy();
        return savedWorld.cases.size();
    }

    public int restore() {
        state(savedWorld != null);
        world = savedWorld.copy();
        past.clear();
        return world.cases.size();
    }

    // Behind the face.

    private void run(String command) {
        int[] n = new int[4];
        Matcher numbers = Pattern.compile("\\d+").matcher(command);
        for (int place = 0; numbers.find(); place++) {
            n[place] = Integer.parseInt(numbers.group());
        }
        switch (command.substring(0, command.indexOf(' '))) {
            case "room" -> addRoom(n[0]);
            case "leg" -> setLeg(n[0], n[1], n[2], n[3]);
            case "pile" -> addExhibit(n[0], n[1]);
            case "drop" -> drop(n[0], n[1], n[2], n[3]);
            case "send" -> send(n[0], n[1]);
            case "ask" -> ask(n[0], n[1], n[2], n[3]);
            case "take" -> takeBest(n[0]);
            default -> passDays(n[0]);
        }
    }

    /** The first character with which no text that can be continued to a well-formed one ends. */
    private static int errorIn(String text) {
        for (int length = 1; length <= text.length(); length++) {
            Matcher matcher = TEXT.matcher(text.substring(0, length));
            if (!matcher.matches() && !matcher.hitEnd()) {
                return length - 1;
            }
        }
        return text.length();
    }

    private void change() {
        if (!inText) {
            remember(world.copy());
        }
    }

    private void remember(World before) {
        past.push(before);
        if (past.size() > 8) {
            past.removeLast();
        }
    }

    private static void index(boolean holds) {
        if (!holds) {
            throw new IndexOutOfBoundsException();
        }
    }

    private static void argument(boolean holds) {
        if (!holds) {
            throw new IllegalArgumentException();
        }
    }

    private static void state(boolean holds) {
        if (!holds) {
            throw new IllegalStateException();
        }
    }

    private static void missing(boolean holds) {
        if (!holds) {
            throw new NoSuchElementException();
        }
    }

    private static void arithmetic(boolean holds) {
        if (!holds) {
            throw new ArithmeticException();
        }
    }

    private void refuse(int why, int what) {
        reason = why;
        detail = what;
        throw new UnsupportedOperationException();
    }

    private void room(int room) {
        index(room >= 0 && room < world.warmths.size());
    }

    private Case exhibit(int exhibit) {
        index(exhibit >= 0 && exhibit < world.cases.size());
        return world.cases.get(exhibit);
    }

    private void dropCheck(int exhibit, int x, int y, int grains) {
        exhibit(exhibit);
        argument(x >= 0 && x <= 3 && y >= 0 && y <= 3 && grains >= 1 && grains <= 40);
    }

    private Leg legOf(int one, int other) {
        room(one);
        room(other);
        for (Leg leg : world.legs) {
            if (leg.joins(one, other)) {
                return leg;
            }
        }
        throw new NoSuchElementException();
    }

    private List<List<Integer>> ways(int from, int to) {
        List<List<Integer>> found = new ArrayList<>();
        extend(new ArrayList<>(List.of(from)), to, found);
        return found;
    }

    private void extend(List<Integer> way, int to, List<List<Integer>> found) {
        int last = way.get(way.size() - 1);
        if (last == to) {
            found.add(new ArrayList<>(way));
            return;
        }
        for (Leg leg : world.legs) {
            for (int next : new int[] {leg.one, leg.other}) {
                if (leg.joins(last, next) && !way.contains(next)) {
                    way.add(next);
                    extend(way, to, found);
                    way.remove(way.size() - 1);
                }
            }
        }
    }

    private int over(List<Integer> way, ToIntFunction<Leg> number) {
        int sum = 0;
        for (int place = 1; place < way.size(); place++) {
            sum += number.applyAsInt(legOf(way.get(place - 1), way.get(place)));
        }
        return sum;
    }

    private int minutesOf(List<Integer> way) {
        return over(way, Leg::minutes);
    }

    private List<Integer> fastest(int from, int to) {
        room(from);
        room(to);
        List<List<Integer>> found = ways(from, to);
        missing(!found.isEmpty());
        found.sort((one, other) -> minutesOf(one) != minutesOf(other) ? minutesOf(one) - minutesOf(other)
                : one.size() != other.size() ? one.size() - other.size()
                : one.toString().compareTo(other.toString()));
        return found.get(0);
    }

    private static int[][] copyOf(int[][] pile) {
        int[][] copy = new int[4][];
        for (int y = 0; y < 4; y++) {
            copy[y] = pile[y].clone();
        }
        return copy;
    }

    private static int sum(int[][] pile) {
        int sum = 0;
        for (int[] row : pile) {
            for (int grains : row) {
                sum += grains;
            }
        }
        return sum;
    }

    // The last place that can topple does so first.
    private static int topple(int[][] pile) {
        int topplings = 0;
        for (int place = 15; place >= 0; place--) {
            int x = place % 4;
            int y = place / 4;
            if (pile[y][x] >= 4) {
                pile[y][x] -= 4;
                for (int other = 0; other < 16; other++) {
                    if (Math.abs(other % 4 - x) + Math.abs(other / 4 - y) == 1) {
                        pile[other / 4][other % 4]++;
                    }
                }
                topplings++;
                place = 16;
            }
        }
        return topplings;
    }

    private static boolean isForbidden(int[][] pile, int set) {
        for (int place = 0; place < 16; place++) {
            int beside = 0;
            beside += place % 4 > 0 ? set >> (place - 1) & 1 : 0;
            beside += place % 4 < 3 ? set >> (place + 1) & 1 : 0;
            beside += place / 4 > 0 ? set >> (place - 4) & 1 : 0;
            beside += place / 4 < 3 ? set >> (place + 4) & 1 : 0;
            if ((set >> place & 1) == 1 && pile[place / 4][place % 4] >= beside) {
                return false;
            }
        }
        return true;
    }

    private static boolean hasSlope(int[][] pile, int place, int length) {
        if (length == 1) {
            return true;
        }
        for (int other = 0; other < 16; other++) {
            boolean beside = Math.abs(other % 4 - place % 4) + Math.abs(other / 4 - place / 4) == 1;
            boolean lower = pile[other / 4][other % 4] < pile[place / 4][place % 4];
            if (beside && lower && hasSlope(pile, other, length - 1)) {
                return true;
            }
        }
        return false;
    }

    private static int melt(Case it, int number) {
        int melted = 0;
        for (int grain = 0; grain < number; grain++) {
            int best = -1;
            for (int y = 3; y >= 0; y--) {
                for (int x = 3; x >= 0; x--) {
                    if (best < 0 || it.pile[y][x] >= it.pile[best / 4][best % 4]) {
                        best = y * 4 + x;
                    }
                }
            }
            if (it.pile[best / 4][best % 4] > 0) {
                it.pile[best / 4][best % 4]--;
                melted++;
            }
        }
        it.melted += melted;
        return melted;
    }

    private int meltOn(Case it, List<Integer> way) {
        int melted = 0;
        for (int place = 1; place < way.size(); place++) {
            melted += melt(it, legOf(way.get(place - 1), way.get(place)).warmth - it.limit);
        }
        return melted;
    }

    private static boolean lentOn(Case it, int day) {
        for (Loan loan : it.taken) {
            if (loan.first <= day && day <= loan.last) {
                return true;
            }
        }
        return false;
    }

    private static int feesOf(Case it, List<Integer> choice) {
        int sum = 0;
        for (int loan : choice) {
            sum += it.asked.get(loan).fee;
        }
        return sum;
    }

    private static List<Integer> bestChoice(Case it) {
        List<List<Integer>> choices = new ArrayList<>();
        addChoices(it, 0, new ArrayList<>(), choices);
        List<Integer> best = choices.get(0);
        for (List<Integer> choice : choices) {
            if (isBetter(it, choice, best)) {
                best = choice;
            }
        }
        return best;
    }

    private static void addChoices(Case it, int loan, List<Integer> chosen, List<List<Integer>> choices) {
        if (loan == it.asked.size()) {
            choices.add(new ArrayList<>(chosen));
            return;
        }
        addChoices(it, loan + 1, chosen, choices);
        List<Loan> others = new ArrayList<>(it.taken);
        for (int other : chosen) {
            others.add(it.asked.get(other));
        }
        if (others.stream().noneMatch(other -> other.meets(it.asked.get(loan)))) {
            chosen.add(loan);
            addChoices(it, loan + 1, chosen, choices);
            chosen.remove(chosen.size() - 1);
        }
    }

    private static boolean isBetter(Case it, List<Integer> one, List<Integer> other) {
        if (feesOf(it, one) != feesOf(it, other)) {
            return feesOf(it, one) > feesOf(it, other);
        }
        if (one.size() != other.size()) {
            return one.size() < other.size();
        }
        for (int loan = 0; loan < it.asked.size(); loan++) {
            if (one.contains(loan) != other.contains(loan)) {
                return one.contains(loan);
            }
        }
        return false;
    }
}
