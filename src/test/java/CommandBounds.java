import java.util.ArrayList;
import java.util.List;
import java.util.regex.Matcher;
import java.util.regex.Pattern;

/** The edges of promises 53 to 56 and of the terms of commands. */
final class CommandBounds {
    private static final Pattern TEXT = Pattern.compile("COMMAND(;COMMAND)*".replace("COMMAND",
            "(room D|leg D-D N\\*D|pile D\\*D|drop D D,D\\+N|send D>D|ask D N-N\\+N|take D|day N)")
            .replace("D", "[0-9]").replace("N", "[0-9][0-9]?"));
    private static final String[] COMMANDS = {"room 9", "leg 1-0 75*9", "pile 0*2", "drop 0 1,2+40", "send 0>1",
        "ask 0 10-99+55", "take 0", "day 99"};
    private static final String[] KEYWORDS = {"room", "leg", "pile", "drop", "send", "ask", "take", "day"};
    private static final String NINE_DAYS = "day 1;day 1;day 1;day 1;day 1;day 1;day 1;day 1;day 1;";

    private CommandBounds() {
    }

    static void run() {
        feed();
        feedFull();
        bufferTerm();
        bufferIsEmptied();
        sameAsCalls();
        oneOrMore();
        commandByCommand();
        allOrNone();
        refusalIsKept();
        malformed();
        failing();
        errorPosition();
        failedCommand();
        digitsOfNumbers();
        keywords();
        spoiledTexts();
        cutTexts();
    }

    private static String execute(AvalancheGallery gallery, String text) {
        Checks.feed(gallery, text);
        return Checks.answerOf(gallery::execute);
    }

    /** The same gallery with an empty input buffer; an error position is kept. */
    private static Galleries.Recipe emptied(Galleries.Recipe recipe) {
        return () -> {
            AvalancheGallery gallery = recipe.make();
            Checks.answerOf(gallery::execute);
            return gallery;
        };
    }

    /** The gallery in which the text has been refused; there the same call once more changes nothing at all. */
    private static Galleries.Recipe refused(Galleries.Recipe recipe, String text) {
        return () -> {
            AvalancheGallery gallery = emptied(recipe).make();
            execute(gallery, text);
            return gallery;
        };
    }

    private static void dueRefused(String text, String exception, Galleries.Recipe recipe) {
        Galleries.Recipe before = emptied(recipe);
        Galleries.Recipe after = refused(recipe, text);
        for (int steps = 0; steps <= 8; steps++) {
            int count = steps;
            String due = Edges.afterUndo(before.make(), count);
            Checks.due(text + " changes nothing, look " + steps, due, () -> Edges.afterUndo(after.make(), count));
        }
        Checks.due(text + " leaves what is saved", Edges.afterRestore(before.make()),
                () -> Edges.afterRestore(after.make()));
        Edges.refused(text, exception, after, gallery -> {
            Checks.feed(gallery, text);
            return gallery.execute();
        });
    }

    private static void feed() {
        Document.promise(53, "Appends a character to the input buffer");
        for (int code : new int[] {0, 1, 9, 10, 31, ' ', '0', ';', '~', 127, 128, 255, 256, 0xd800, 0xffff}) {
            AvalancheGallery gallery = new AvalancheGallery();
            Checks.due("character " + code, 1, () -> gallery.feed((char) code));
            Checks.due("and one more", 2, () -> gallery.feed((char) code));
            Checks.argument("it stands there", gallery::execute);
            Checks.due("at once", 0, gallery::errorPosition);
        }
        AvalancheGallery gallery = new AvalancheGallery();
        Checks.feed(gallery, "day");
        Checks.feed(gallery, " 7");
        Checks.due("in their order", 1, gallery::execute);
        Checks.due("the text", 7, gallery::day);
        // Only the lower eight bits of these are those of the digit 1 and of a semicolon.
        for (char character : new char[] {'1' + 256, ';' + 256, '1' + 0xff00, '1' + 128}) {
            AvalancheGallery other = new AvalancheGallery();
            Checks.due("no digit", "throws " + Edges.ARGUMENT, () -> execute(other, "day " + character));
        }
    }

    private static void feedFull() {
        Document.promise(53, "Returns the new length of the input buffer");
        AvalancheGallery gallery = new AvalancheGallery();
        for (int length = 1; length <= 60; length++) {
            int due = length;
            Checks.due("length", due, () -> gallery.feed(' '));
        }
        Document.promise(53, "Throws `IllegalStateException`");
        Checks.state("one more", () -> gallery.feed(' '));
        for (char character : new char[] {'1', ';', 0, 0xffff}) {
            Edges.refused("a 61st", Edges.STATE, Galleries.FULL, g -> g.feed(character));
        }
        Checks.argument("malformed", gallery::execute);
        Checks.due("empty again", 1, () -> gallery.feed(' '));
    }

    private static void bufferTerm() {
        Document.term("The input buffer holds at most 60 characters");
        AvalancheGallery gallery = new AvalancheGallery();
        Checks.due("59", "10", () -> execute(gallery, NINE_DAYS + "day 2"));
        Checks.due("60", "10", () -> execute(gallery, NINE_DAYS + "day 12"));
        Checks.due("days", 32, gallery::day);
        Checks.feed(gallery, NINE_DAYS + "day 12");
        for (char character : "345".toCharArray()) {
            Checks.state("beyond", () -> gallery.feed(character));
        }
        Checks.due("60 of 63", 10, gallery::execute);
        Checks.due("days", 53, gallery::day);
    }

    private static void bufferIsEmptied() {
        Document.promise(54, "The input buffer is empty afterwards, also if an exception is thrown");
        for (String text : new String[] {"day 1", "day 0", "day", "", NINE_DAYS + "day 12", NINE_DAYS + "day 00",
            NINE_DAYS + "day 1;"}) {
            AvalancheGallery gallery = new AvalancheGallery();
            execute(gallery, text);
            Checks.due("after " + text, 1, () -> gallery.feed('d'));
            Checks.due("nothing of it stands behind", "1", () -> execute(gallery, "ay 5"));
            execute(gallery, text);
            Checks.argument("nothing is executed again", gallery::execute);
            Checks.due("as there is no text", 0, gallery::errorPosition);
        }
    }

    /** A call and the text that does the same, whatever numbers an earlier text had. */
    private static void dueSame(String text, Edges.Act call) {
        Galleries.Recipe[] recipes = {Galleries.BARE, Galleries.APART, Galleries.LADEN, Galleries.FULL};
        for (Galleries.Recipe recipe : recipes) {
            AvalancheGallery called = refused(recipe, "ask 9 98-97+96").make();
            AvalancheGallery told = refused(recipe, "ask 9 98-97+96").make();
            boolean throwing = Checks.answerOf(() -> call.on(called)).startsWith("throws");
            String due = throwing ? "throws " + Edges.REFUSED : "1";
            Checks.due(text, due, () -> execute(told, text));
            if (throwing) {
                Checks.due(text + " is the failed command", 0, told::failedCommand);
            }
            Checks.due(text + " does the same", Edges.afterUndo(called, 0), () -> Edges.afterUndo(told, 0));
            Checks.due(text + " is undone", Edges.afterUndo(called, 1), () -> Edges.afterUndo(told, 1));
        }
    }

    // What the calls allow and what they do not, so far as a command can say it.
    private static void sameAsCalls() {
        Document.term("A text consists of one or more commands, separated by semicolons");
        for (int digit = 0; digit <= 9; digit++) {
            int d = digit;
            dueSame("room " + d, g -> g.addRoom(d));
            dueSame("leg " + d + "-1 12*3", g -> g.setLeg(d, 1, 12, 3));
            dueSame("leg 2-" + d + " 1*9", g -> g.setLeg(2, d, 1, 9));
            dueSame("leg 1-0 99*" + d, g -> g.setLeg(1, 0, 99, d));
            dueSame("pile " + d + "*4", g -> g.addExhibit(d, 4));
            dueSame("pile 1*" + d, g -> g.addExhibit(1, d));
            dueSame("drop " + d + " 3,1+5", g -> g.drop(d, 3, 1, 5));
            dueSame("drop 0 " + d + ",2+7", g -> g.drop(0, d, 2, 7));
            dueSame("drop 1 0," + d + "+9", g -> g.drop(1, 0, d, 9));
            dueSame("send " + d + ">1", g -> g.send(d, 1));
            dueSame("send 0>" + d, g -> g.send(0, d));
            dueSame("ask " + d + " 20-30+4", g -> g.ask(d, 20, 30, 4));
            dueSame("take " + d, g -> g.takeBest(d));
        }
        for (int number : new int[] {0, 1, 2, 9, 10, 39, 40, 41, 50, 98, 99}) {
            int n = number;
            dueSame("leg 0-1 " + n + "*5", g -> g.setLeg(0, 1, n, 5));
            dueSame("drop 0 1,1+" + n, g -> g.drop(0, 1, 1, n));
            dueSame("ask 1 " + n + "-50+6", g -> g.ask(1, n, 50, 6));
            dueSame("ask 1 40-" + n + "+6", g -> g.ask(1, 40, n, 6));
            dueSame("ask 1 40-50+" + n, g -> g.ask(1, 40, 50, n));
            dueSame("day " + n, g -> g.passDays(n));
        }
    }

    private static void oneOrMore() {
        Document.term("A text consists of one or more commands, separated by semicolons");
        dueError("", 0);
        dueError(";", 0);
        StringBuilder text = new StringBuilder("day 1");
        for (int commands = 1; commands <= 10; commands++) {
            AvalancheGallery gallery = new AvalancheGallery();
            String told = text.toString();
            Checks.due(told, String.valueOf(commands), () -> execute(gallery, told));
            Checks.due("each was executed", commands, gallery::day);
            Checks.due("one change", 1, gallery::undoCount);
            dueError(told + ";", told.length() + 1);
            text.append(";day 1");
        }
        dueError("day 1;;day 1", 6);
        dueError("day 1; day 1", 6);
        dueError("day 1 ;day 1", 5);
        dueError("day 1,day 1", 5);
        dueError("day 1:day 1", 5);
    }

    private static void commandByCommand() {
        Document.promise(54, "Executes the text in the input buffer, command by command, either all commands or none");
        AvalancheGallery gallery = new AvalancheGallery();
        Checks.due("each needs the one before", "5",
                () -> execute(gallery, "room 9;room 0;leg 0-1 5*7;pile 0*6;drop 0 1,1+11"));
        Checks.due("they go on", "4", () -> execute(gallery, "send 0>1;send 0>0;day 1;ask 0 1-2+3"));
        Checks.due("one on each leg, then three", 5, () -> gallery.melted(0));
        Checks.due("taken before the day", "2", () -> execute(gallery, "take 0;day 2"));
        Checks.due("none melts", 5, () -> gallery.melted(0));
        Checks.due("day before taken", "3", () -> execute(gallery, "day 1;ask 0 3-4+9;take 0"));
        Checks.due("three melt", 8, () -> gallery.melted(0));
        Checks.due("income", 12, gallery::income);
        Checks.refused("the other way round", () -> {
            Checks.feed(gallery, "take 0;ask 0 8-9+9");
            return gallery.execute();
        });
        Checks.due("the first one failed", 0, gallery::failedCommand);
    }

    private static void allOrNone() {
        Document.promise(54, "Executes the text in the input buffer, command by command, either all commands or none");
        for (String change : new String[] {"room 1", "leg 0-1 7*7", "pile 1*1", "drop 0 2,2+33", "send 1>2",
            "ask 0 20-30+9", "take 0", "day 5"}) {
            dueRefused(change + ";day 0", Edges.REFUSED, Galleries.LADEN);
            dueRefused(change + ";day", Edges.ARGUMENT, Galleries.LADEN);
        }
        dueRefused("take 0;take 1;day 3;drop 0 1,1+40;room 1;pile 3*3;send 2>4", Edges.REFUSED, Galleries.LADEN);
        AvalancheGallery gallery = Galleries.LADEN.make();
        Checks.argument("what stands in the buffer", gallery::execute);
        Checks.due("two commands and one change", "2", () -> execute(gallery, "room 1;day 2"));
        Checks.due("a change", 8, gallery::undoCount);
    }

    private static void refusalIsKept() {
        Document.promise(54, "A refusal of a command is kept, too");
        AvalancheGallery gallery = Galleries.APART.make();
        execute(gallery, ";");
        Checks.due("no way", "throws " + Edges.REFUSED, () -> execute(gallery, "day 1;send 1>3"));
        Checks.due("NO_WAY", AvalancheGallery.NO_WAY, gallery::refusalReason);
        Checks.due("room 2", 2, gallery::refusalDetail);
        Checks.due("a text that succeeds", "1", () -> execute(gallery, "send 0>1"));
        Checks.due("lent", "throws " + Edges.REFUSED, () -> execute(gallery, "ask 0 1-77+9;take 0;send 0>0"));
        Checks.due("LENT", AvalancheGallery.LENT, gallery::refusalReason);
        Checks.due("the last day within the text", 77, gallery::refusalDetail);
        Checks.due("but it is not lent", false, () -> gallery.isLent(0, 1));
        Checks.due("in another room", "throws " + Edges.REFUSED, () -> execute(gallery, "send 0>0;send 0>3"));
        Checks.due("NO_WAY again", AvalancheGallery.NO_WAY, gallery::refusalReason);
        Checks.due("the room within the text", 0, gallery::refusalDetail);
        Checks.due("but it stays in its own", 1, () -> gallery.roomOf(0));
        Checks.due("no room", "throws " + Edges.REFUSED, () -> execute(gallery, "send 1>4"));
        Checks.due("no exhibit", "throws " + Edges.REFUSED, () -> execute(gallery, "send 2>2"));
        Checks.due("malformed", "throws " + Edges.ARGUMENT, () -> execute(gallery, "send 1>2;x"));
        Checks.due("none of them is a refusal", 0, gallery::refusalDetail);
    }

    private static void malformed() {
        Document.promise(54, "Throws `IllegalArgumentException`");
        for (String text : new String[] {"", "x", "day", "day 1;", "day 1;x", "day 100", "room 10", "send 1>3 "}) {
            dueRefused(text, Edges.ARGUMENT, Galleries.APART);
            dueRefused(text, Edges.ARGUMENT, Galleries.LADEN);
        }
        Checks.due("malformed behind a command that fails", "throws " + Edges.ARGUMENT,
                () -> execute(new AvalancheGallery(), "day 0;x"));
    }

    private static void failing() {
        Document.promise(54, "Throws `UnsupportedOperationException`");
        for (String text : new String[] {"day 0", "leg 0-0 5*5", "leg 0-6 5*5", "leg 1-0 0*5", "pile 6*0",
            "drop 0 4,0+1", "drop 5 0,0+1", "drop 0 0,0+41", "send 0>6", "ask 0 2-1+1", "take 5"}) {
            dueRefused(text, Edges.REFUSED, Galleries.LADEN);
            dueRefused("day 1;" + text, Edges.REFUSED, Galleries.FULL);
        }
        dueRefused("room 0", Edges.REFUSED, Galleries.FULL);
        dueRefused("pile 0*0", Edges.REFUSED, Galleries.FULL);
        dueRefused("ask 0 0-0+1", Edges.REFUSED, Galleries.FULL);
        dueRefused("take 1", Edges.REFUSED, Galleries.APART);
        dueRefused("send 1>0", Edges.REFUSED, Galleries.APART);
    }

    private static void errorPosition() {
        Document.promise(55, "Throws `NoSuchElementException`");
        Edges.refused("none", Edges.MISSING, Galleries.BARE, AvalancheGallery::errorPosition);
        Edges.refused("none", Edges.MISSING, Galleries.APART, AvalancheGallery::errorPosition);
        AvalancheGallery gallery = new AvalancheGallery();
        execute(gallery, "day 1");
        execute(gallery, "day 0");
        Checks.missing("neither is malformed", gallery::errorPosition);
        Document.promise(55, "Returns the error position that was kept last");
        for (int position : new int[] {0, 59, 6, 60, 1, 0}) {
            String text = NINE_DAYS + "day 1;";
            execute(gallery, text.substring(0, Math.min(position, 59)) + (position < 60 ? "#" : ";"));
            Checks.due("the latest", position, gallery::errorPosition);
            execute(gallery, "day 1");
            execute(gallery, "day 0");
            gallery.undo();
            Document.promise(55, "Returns the error position.");
            Checks.due("still", position, gallery::errorPosition);
        }
    }

    private static void failedCommand() {
        Document.promise(56, "Throws `NoSuchElementException`");
        Edges.refused("none", Edges.MISSING, Galleries.BARE, AvalancheGallery::failedCommand);
        Edges.refused("none", Edges.MISSING, Galleries.APART, AvalancheGallery::failedCommand);
        AvalancheGallery gallery = new AvalancheGallery();
        execute(gallery, "day 1");
        execute(gallery, "x");
        Checks.missing("neither failed", gallery::failedCommand);
        for (int failing = 9; failing >= 0; failing--) {
            StringBuilder text = new StringBuilder(NINE_DAYS + "day 1");
            text.setCharAt(6 * failing + 4, '0');
            int due = failing;
            Document.promise(56, "Returns the index of the command");
            Checks.due(text.toString(), "throws " + Edges.REFUSED, () -> execute(gallery, text.toString()));
            Checks.due("failed", due, gallery::failedCommand);
            text.setCharAt(4, '0');
            execute(gallery, text.toString());
            Checks.due("the first one that fails", 0, gallery::failedCommand);
        }
        Document.promise(56, "Returns the failed command that was kept last");
        execute(gallery, "day 1;day 1;day 0");
        execute(gallery, "day 1");
        execute(gallery, "day 0;x");
        gallery.undo();
        Checks.due("still", 2, gallery::failedCommand);
    }

    /** The text is malformed, and nothing but its error position is kept. */
    private static void dueError(String text, int position) {
        AvalancheGallery gallery = Checks.prepared();
        Checks.due(text, "throws " + Edges.ARGUMENT, () -> execute(gallery, text));
        Checks.due("error position of " + text, position, gallery::errorPosition);
    }

    private static void dueWell(String text) {
        AvalancheGallery gallery = Checks.prepared();
        String answer = execute(gallery, text);
        Checks.due(text + " is well-formed: " + answer, false, () -> answer.equals("throws " + Edges.ARGUMENT));
        Checks.missing("no error position of " + text, gallery::errorPosition);
    }

    private static void digitsOfNumbers() {
        Document.term("Numbers have one or two digits");
        for (String before : new String[] {"day ", "drop 0 0,0+", "ask 0 1-2+", "ask 0 1-"}) {
            String behind = before.endsWith("-") ? "+5" : "";
            dueError(before + behind, before.length());
            dueWell(before + "7" + behind);
            dueWell(before + "07" + behind);
            dueWell(before + "00" + behind);
            dueWell(before + "99" + behind);
            dueError(before + "007" + behind, before.length() + 2);
            dueError(before + "123" + behind, before.length() + 2);
            dueError(before + "1 2" + behind, before.length() + 1);
            dueError(before + "-1" + behind, before.length());
            dueError(before + "+1" + behind, before.length());
        }
        AvalancheGallery gallery = new AvalancheGallery();
        execute(gallery, "day 07;day 10;day 1;day 01");
        Checks.due("7, 10, 1 and 1", 19, gallery::day);
        // A digit is one digit.
        dueError("room 00", 6);
        dueError("leg 00-1 5*5", 5);
        dueError("leg 0-01 5*5", 7);
        dueError("leg 0-1 5*05", 11);
        dueError("pile 00*0", 6);
        dueError("pile 0*00", 8);
        dueError("drop 00 0,0+1", 6);
        dueError("drop 0 00,0+1", 8);
        dueError("drop 0 0,00+1", 10);
        dueError("send 00>0", 6);
        dueError("send 0>00", 8);
        dueError("ask 00 1-2+3", 5);
        dueError("take 00", 6);
    }

    // No keyword has an "x", and each of its letters may be written small alone.
    private static void keywords() {
        Document.term("Keywords are compared letter by letter");
        for (int number = 0; number < KEYWORDS.length; number++) {
            String command = COMMANDS[number];
            String keyword = KEYWORDS[number];
            dueWell(command);
            for (int at = 0; at <= keyword.length(); at++) {
                String before = command.substring(0, at);
                String behind = command.substring(Math.min(at + 1, command.length()));
                dueError(before + "x" + behind, at);
                dueError(before + Character.toUpperCase(command.charAt(at)) + (at < keyword.length() ? behind : ""),
                        at < keyword.length() ? at : at + 1);
                dueError(before + "x" + command.substring(at), at);
                dueError(before, at);
            }
            dueError(keyword.toUpperCase() + command.substring(keyword.length()), 0);
            dueError(keyword + "s" + command.substring(keyword.length()), keyword.length());
        }
        dueError("dray 1", 2);
        dueError("daop 0 0,0+1", 2);
        dueError("doy 1", 1);
        dueError("rake 0", 1);
        dueError("lend 0>1", 2);
        dueError("days 1", 3);
    }

    private static boolean canContinue(String text) {
        Matcher matcher = TEXT.matcher(text);
        return matcher.matches() || matcher.hitEnd();
    }

    /** The text's error position is where the terms say that it is; a text without one is executed. */
    private static void dueAsInTerms(String text) {
        if (TEXT.matcher(text).matches()) {
            dueWell(text);
            return;
        }
        int position = 0;
        while (position < text.length() && canContinue(text.substring(0, position + 1))) {
            position++;
        }
        dueError(text, position);
    }

    private static List<String> texts() {
        List<String> texts = new ArrayList<>(List.of(COMMANDS));
        for (String command : COMMANDS) {
            texts.add("day 1;" + command);
            texts.add(command + ";take 0");
            texts.add("pile 0*2;" + command + ";ask 0 5-6+7");
        }
        return texts;
    }

    private static void spoiledTexts() {
        Document.term("A text is malformed if it does not have this form");
        for (String text : texts()) {
            dueAsInTerms(text);
            for (int at = 0; at <= text.length(); at++) {
                String before = text.substring(0, at);
                String behind = text.substring(Math.min(at + 1, text.length()));
                dueAsInTerms(before + behind);
                for (char character : " ;0+-*,>aorlpdst/:\0\u00e9".toCharArray()) {
                    dueAsInTerms(before + character + behind);
                    dueAsInTerms(before + character + text.substring(at));
                }
            }
        }
    }

    private static void cutTexts() {
        Document.term("or the length of the text if the text ends too early");
        for (String text : texts()) {
            for (int length = 0; length < text.length(); length++) {
                String cut = text.substring(0, length);
                if (!TEXT.matcher(cut).matches()) {
                    dueError(cut, length);
                }
            }
        }
        dueError(NINE_DAYS + "day 1;", 60);
        dueError(NINE_DAYS + "day ", 58);
        dueError(NINE_DAYS + "ask 0 ", 60);
        dueError(NINE_DAYS + "day 1x", 59);
    }
}
