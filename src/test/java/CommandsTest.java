/** Promises 53 to 56: the input buffer, texts and what is kept of their errors. */
public final class CommandsTest {
    private static final String[] COMMANDS = {"room 9", "leg 1-0 75*9", "leg 0-1 7*0", "pile 0*2", "drop 0 1,2+40",
        "drop 0 3,0+5", "send 0>1", "ask 0 0-9+1", "ask 0 10-99+55", "ask 0 1-20+3", "ask 0 1-2+30", "take 0",
        "day 1", "day 99"};

    public static void main(String[] args) {
        feed();
        everyCommand();
        everyErrorPosition();
        namedErrorPositions();
        allOrNone();
        failedCommands();
        keptRefusal();
        longestTexts();
        asOneChange();
        Checks.finish("CommandsTest");
    }

    private static String execute(AvalancheGallery gallery, String text) {
        Checks.feed(gallery, text);
        return Checks.answerOf(gallery::execute);
    }

    private static void dueError(String text, int position) {
        AvalancheGallery gallery = Checks.prepared();
        Checks.due("54 " + text, "throws IllegalArgumentException", () -> execute(gallery, text));
        Checks.due("55 " + text, position, gallery::errorPosition);
        Checks.missing("56 " + text, gallery::failedCommand);
        Checks.due("54 nothing changed", 5, gallery::undoCount);
        Checks.due("53 the buffer is empty", 1, () -> gallery.feed('x'));
    }

    private static void feed() {
        AvalancheGallery gallery = new AvalancheGallery();
        for (int length = 1; length <= 60; length++) {
            char character = (char) (length * 1000);
            Checks.due("53 feed", length, () -> gallery.feed(character));
        }
        Checks.state("53 a full buffer", () -> gallery.feed('r'));
        Checks.state("53 still full", () -> gallery.feed(' '));
        Checks.missing("55 none was kept", gallery::errorPosition);
        Checks.missing("56 none was kept", gallery::failedCommand);
        Checks.argument("54 malformed", gallery::execute);
        Checks.due("55 at once", 0, gallery::errorPosition);
        Checks.due("53 the buffer is empty", 1, () -> gallery.feed('\0'));
        Checks.due("53 is no change", 0, gallery::undoCount);
    }

    private static void everyCommand() {
        AvalancheGallery gallery = new AvalancheGallery();
        Checks.due("54 rooms", "2", () -> execute(gallery, "room 3;room 0"));
        Checks.due("7 warmth", 3, () -> gallery.warmth(0));
        Checks.due("54 leg", "1", () -> execute(gallery, "leg 0-1 75*8"));
        Checks.due("8 legMinutes", 75, () -> gallery.legMinutes(1, 0));
        Checks.due("9 legWarmth", 8, () -> gallery.legWarmth(1, 0));
        Checks.due("54 pile", "1", () -> execute(gallery, "pile 0*2"));
        Checks.due("20 roomOf", 0, () -> gallery.roomOf(0));
        Checks.due("21 limit", 2, () -> gallery.limit(0));
        Checks.due("54 drop", "2", () -> execute(gallery, "drop 0 1,2+3;drop 0 1,1+12"));
        Checks.due("23 grains", 15, () -> gallery.grains(0));
        Checks.due("54 x comes before y", "0300/3130/1210/0100", () -> Checks.pileOf(gallery, 0));
        Checks.due("54 day", "1", () -> execute(gallery, "day 04"));
        Checks.due("36 day", 4, gallery::day);
        Checks.due("30 melted", 4, () -> gallery.melted(0));
        Checks.due("54 send", "1", () -> execute(gallery, "send 0>1"));
        Checks.due("20 roomOf", 1, () -> gallery.roomOf(0));
        Checks.due("30 melted", 10, () -> gallery.melted(0));
        Checks.due("54 ask", "2", () -> execute(gallery, "ask 0 7-12+34;ask 0 12-13+5"));
        Checks.due("39 askedCount", 2, () -> gallery.askedCount(0));
        Checks.due("54 take", "1", () -> execute(gallery, "take 0"));
        Checks.due("44 income", 34, gallery::income);
        Checks.due("43 day 6", false, () -> gallery.isLent(0, 6));
        Checks.due("43 day 7", true, () -> gallery.isLent(0, 7));
        Checks.due("43 day 12", true, () -> gallery.isLent(0, 12));
        Checks.due("43 day 13", false, () -> gallery.isLent(0, 13));
        Checks.due("54 of the second exhibit", "3", () -> execute(gallery, "pile 1*0;ask 1 5-5+6;take 1"));
        Checks.due("36 take passes no day", 4, gallery::day);
        Checks.due("44 income", 40, gallery::income);
        Checks.missing("55 none was kept", gallery::errorPosition);
        Checks.missing("56 none was kept", gallery::failedCommand);
    }

    // Cut short and with a sign that fits nowhere, each command has its error where it is cut or spoiled.
    private static void everyErrorPosition() {
        for (String command : COMMANDS) {
            String shape = command.replaceAll("[0-9]", "0");
            for (int length = 0; length < command.length(); length++) {
                boolean wellFormed = endsWell(shape.substring(0, length));
                if (!wellFormed) {
                    dueError(command.substring(0, length), length);
                    dueError("day 1;" + command.substring(0, length), length + 6);
                }
                dueError(command.substring(0, length) + "#" + command.substring(length), length);
            }
            dueError(command + "#", command.length());
            dueError(command + ";", command.length() + 1);
            dueError(command + ";;", command.length() + 1);
            dueError(command + " ", command.length());
            dueError(" " + command, 0);
            dueError(";" + command, 0);
        }
    }

    // Only a command that ends with a number of two digits can lose its last one.
    private static boolean endsWell(String shape) {
        return shape.matches("day 0|drop 0 0,0\\+0|ask 0 00?-00?\\+0");
    }

    private static void namedErrorPositions() {
        dueError("", 0);
        dueError("x", 0);
        dueError("Room 1", 0);
        dueError("rooM 1", 3);
        dueError("room 12", 6);
        dueError("room  1", 5);
        dueError("room1", 4);
        dueError("leg 0-1 100*1", 10);
        dueError("leg 0-1 *1", 8);
        dueError("leg 00-1 1*1", 5);
        dueError("pile 0,1", 6);
        dueError("drop 0 00+9", 8);
        dueError("drop 0 0,0-9", 10);
        dueError("drop 0 0,0+123", 13);
        dueError("dray 1", 2);
        dueError("daop 1", 2);
        dueError("send 0-1", 6);
        dueError("ask 0 100-1+1", 8);
        dueError("ask 0 1-100+1", 10);
        dueError("ask 0 1-1+", 10);
        dueError("take 00", 6);
        dueError("tbke 0", 1);
        dueError("day 100", 6);
        dueError("day -1", 4);
        dueError("day \u0661", 4);
        dueError("day 1;day 2;da", 14);
        dueError("day 1;day 2;do", 13);
        dueError("day 1,day 2", 5);
        dueError("room 1;room 2;", 14);
    }

    private static void allOrNone() {
        AvalancheGallery gallery = Checks.prepared();
        Checks.due("54 the fourth fails", "throws UnsupportedOperationException",
                () -> execute(gallery, "room 1;drop 0 0,0+9;day 9;take 1;day 1"));
        Checks.due("56 failedCommand", 3, gallery::failedCommand);
        Checks.due("6 no room", 2, gallery::roomCount);
        Checks.due("23 no grains", 0, () -> gallery.grains(0));
        Checks.due("28 none dropped", 0, () -> gallery.dropped(0));
        Checks.due("36 no day", 0, gallery::day);
        Checks.due("57 no change", 5, gallery::undoCount);
        Checks.due("53 the buffer is empty", 1, () -> gallery.feed('d'));
        Checks.due("54 on with the text", "1", () -> execute(gallery, "ay 2"));
        Checks.due("36 day", 2, gallery::day);
        Checks.due("56 is kept", 3, gallery::failedCommand);
        Checks.due("54 a malformed text does nothing", "throws IllegalArgumentException",
                () -> execute(gallery, "room 1;day 9;x"));
        Checks.due("55 errorPosition", 13, gallery::errorPosition);
        Checks.due("56 is kept", 3, gallery::failedCommand);
        Checks.due("6 no room", 2, gallery::roomCount);
        Checks.due("54 fails", "throws UnsupportedOperationException", () -> execute(gallery, "day 0"));
        Checks.due("55 is kept", 13, gallery::errorPosition);
        Checks.due("56 the first", 0, gallery::failedCommand);
    }

    private static void dueFailure(String text, int failed) {
        AvalancheGallery gallery = Checks.prepared();
        Checks.due("54 " + text, "throws UnsupportedOperationException", () -> execute(gallery, text));
        Checks.due("56 " + text, failed, gallery::failedCommand);
        Checks.due("57 " + text, 5, gallery::undoCount);
        Checks.due("52 " + text, true, gallery::isConsistent);
    }

    private static void failedCommands() {
        dueFailure("room 1;room 1;room 1;room 1;room 1", 4);
        dueFailure("leg 0-2 5*5", 0);
        dueFailure("leg 2-0 5*5", 0);
        dueFailure("leg 1-1 5*5", 0);
        dueFailure("leg 0-1 0*5", 0);
        dueFailure("room 0;leg 0-1 00*5", 1);
        dueFailure("pile 2*0", 0);
        dueFailure("pile 0*0;pile 0*0;pile 0*0;pile 0*0;pile 0*0", 4);
        dueFailure("drop 1 0,0+1", 0);
        dueFailure("drop 0 4,0+1", 0);
        dueFailure("drop 0 0,4+1", 0);
        dueFailure("drop 0 0,0+0", 0);
        dueFailure("drop 0 0,0+41", 0);
        dueFailure("send 1>0", 0);
        dueFailure("send 0>2", 0);
        dueFailure("room 0;send 0>2", 1);
        dueFailure("ask 1 0-0+1", 0);
        dueFailure("ask 0 2-1+1", 0);
        dueFailure("ask 0 1-1+0", 0);
        dueFailure("take 1", 0);
        dueFailure("take 0;take 0", 1);
        dueFailure("day 0", 0);
        dueFailure("day 1;day 00", 1);
    }

    private static void keptRefusal() {
        AvalancheGallery gallery = Checks.prepared();
        Checks.due("54 no such room", "throws UnsupportedOperationException", () -> execute(gallery, "send 0>7"));
        Checks.missing("45 is no refusal", gallery::refusalReason);
        Checks.due("54 no way", "throws UnsupportedOperationException",
                () -> execute(gallery, "room 1;send 0>1;send 0>2"));
        Checks.due("56 failedCommand", 2, gallery::failedCommand);
        Checks.due("45 NO_WAY", 2, gallery::refusalReason);
        Checks.due("46 the room within the text", 1, gallery::refusalDetail);
        Checks.due("20 but it stays", 0, () -> gallery.roomOf(0));
        Checks.due("54 lent", "throws UnsupportedOperationException",
                () -> execute(gallery, "ask 0 1-17+9;take 0;day 3;send 0>1"));
        Checks.due("45 LENT", 1, gallery::refusalReason);
        Checks.due("46 last day", 17, gallery::refusalDetail);
        Checks.due("43 but it is not lent", false, () -> gallery.isLent(0, 3));
        Checks.due("44 no income", 0, gallery::income);
        Checks.due("39 askedCount", 1, () -> gallery.askedCount(0));
    }

    private static void longestTexts() {
        AvalancheGallery gallery = Checks.prepared();
        Checks.due("54 ten commands", "10", () -> execute(gallery,
                "day 1;day 1;day 1;day 1;day 1;day 1;day 1;day 1;day 1;day 12"));
        Checks.due("36 day", 21, gallery::day);
        dueError("day 1;day 1;day 1;day 1;day 1;day 1;day 1;day 1;day 1;day 1;", 60);
        dueError("ask 0 10-11+12;ask 0 10-11+12;ask 0 10-11+12;ask 0 10-11+12;", 60);
        Checks.due("54 four long ones", "4", () -> execute(gallery,
                "ask 0 10-11+12;ask 0 10-11+12;ask 0 10-11+12;ask 0 10-11+12"));
        Checks.due("39 askedCount", 5, () -> gallery.askedCount(0));
    }

    private static void asOneChange() {
        AvalancheGallery gallery = Checks.prepared();
        execute(gallery, "room 1;day 3;drop 0 0,0+3;take 0");
        Checks.due("58 one change", 6, gallery::undoCount);
        Checks.due("57 undo", 5, gallery::undo);
        Checks.due("6 roomCount", 2, gallery::roomCount);
        Checks.due("36 day", 0, gallery::day);
        Checks.due("23 grains", 0, () -> gallery.grains(0));
        Checks.due("39 askedCount", 1, () -> gallery.askedCount(0));
        Checks.due("44 income", 0, gallery::income);
    }
}
