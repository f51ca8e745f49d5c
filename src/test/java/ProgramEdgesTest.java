import java.util.List;
import java.util.NoSuchElementException;
import java.util.function.Supplier;

/** Every sentence of "Programs" and of the promises 46 to 49 that names a boundary. */
public final class ProgramEdgesTest {
    private static final Class<IllegalArgumentException> ARGUMENT = IllegalArgumentException.class;
    private static final Class<IllegalStateException> STATE = IllegalStateException.class;
    private static final Class<NoSuchElementException> ELEMENT = NoSuchElementException.class;
    private static final Class<UnsupportedOperationException> UNSUPPORTED = UnsupportedOperationException.class;
    // Signs whose last bits are those of a digit, a letter or a semicolon, and digits of other scripts among them.
    private static final String FAR_SIGNS = "\u0080\u00e4\u00ff\u0130\u0139\u013b\u0120\u013e\u0140\u012c\u0161\u0164"
            + "\u016a\u0661\uff10\uff41\uffff";
    private static final String[] COMMANDS = {"job 1,2 a0 1@9", "job 12,013 b5 4@19", "job 020,20 d3 2@199",
        "cancel 1", "cancel 12", "cancel 123", "give 0>1", "give 12>0", "give 123>2", "take 1", "take 12", "take 123",
        "stock a1", "stock b12", "stock d099", "load 0a1", "load 1b10", "load 2d003", "borrow 05", "return 21",
        "fix 0 1", "fix 1 12", "fix 2 123", "home 0", "rest 0 1", "rest 1 12", "rest 2 099"};

    private final Expect expect = new Expect();

    public static void main(String[] arguments) {
        ProgramEdgesTest test = new ProgramEdgesTest();
        test.buffer();
        test.bufferIsEmptyAfterwards();
        test.longestProgram();
        test.numberOfCommands();
        test.commandsAreTheirMethods();
        test.numbersOfThreeDigits();
        test.argumentsAtTheirEnds();
        test.properPrefixes();
        test.prefixesOfSixty();
        test.everySignAtEveryPlace();
        test.emptyText();
        test.latestError();
        test.latestFailure();
        test.allOrNone();
        test.expect.end();
    }

    private void buffer() {
        expect.part("46 type: any character, up to 60");
        for (char sign : new char[] {'a', ';', (char) 0, (char) 255, (char) 256, (char) 0xffff}) {
            RepairBarrows service = new RepairBarrows();
            for (int i = 1; i <= 60; i++) {
                expect.same("type", i, service.type(sign));
            }
            expect.fails("a 61st", STATE, () -> service.type(sign));
            expect.fails("and again", STATE, () -> service.type(sign));
            expect.fails("run()", ARGUMENT, service::run);
            expect.same("errorPosition()", 0, service.errorPosition());
            expect.same("the first of the next text", 1, service.type(sign));
        }
    }

    private void bufferIsEmptyAfterwards() {
        expect.part("47 run: the buffer is empty afterwards in every case");
        RepairBarrows service = new RepairBarrows();
        expect.same("a program", 1, Text.run(service, "home 0"));
        expect.same("then", 1, service.type('h'));
        expect.fails("no program", ARGUMENT, service::run);
        expect.same("then", 1, service.type('h'));
        expect.fails("a failing program", UNSUPPORTED, () -> Text.run(service, "ome 3"));
        expect.same("then", 1, service.type('h'));
        expect.same("a program again", 1, Text.run(service, "ome 0"));
        for (String full : new String[] {Services.LONGEST, Services.LONGEST.replace("home 0", "home 3"),
            Services.LONGEST.replace("home", "hole")}) {
            Expect.outcome(() -> Text.run(service, full));
            expect.same("after 60 characters", 1, service.type('x'));
            Expect.outcome(service::run);
        }
    }

    private void longestProgram() {
        expect.part("46, 47: a program of 60 characters");
        RepairBarrows service = new RepairBarrows();
        expect.same("its length", 60, Services.LONGEST.length());
        Text.type(service, Services.LONGEST);
        expect.fails("a 61st character", STATE, () -> service.type(';'));
        expect.same("run()", 8, service.run());
        expect.same("clock(2)", 7, service.clock(2));
        expect.same("clock(1)", 7, service.clock(1));
        expect.fails("no error", ELEMENT, service::errorPosition);
    }

    private void numberOfCommands() {
        expect.part("47 run: the number of commands; zero or more repetitions");
        StringBuilder text = new StringBuilder("rest 1 1");
        RepairBarrows service = new RepairBarrows();
        int clock = 0;
        for (int count = 1; count <= 6; count++) {
            expect.same("run()", count, Text.run(service, text.toString()));
            clock += count;
            expect.same("clock(1)", clock, service.clock(1));
            text.append(";rest 1 1");
        }
        expect.same("seven", 7, Text.run(service, "home 0;home 1;home 2;home 0;home 1;home 2;home 0"));
        expect.same("eight", 8, Text.run(service, "home 0;home 1;home 2;home 0;home 1;home 2;home 0;home 1"));
    }

    private void commandsAreTheirMethods() {
        expect.part("The commands correspond to their methods");
        same("job 20,7 c4 3@120", service -> service.addJob(20, 7, 'c', 4, 3, 120), Services::stocked);
        same("cancel 13", service -> service.cancelJob(13), Services::quiet);
        same("give 12>2", service -> service.assign(12, 2), Services::quiet);
        same("give 7>0", service -> service.assign(7, 0), Services::quiet);
        same("take 9", service -> service.unassign(9), Services::quiet);
        same("stock c12", service -> service.addStock('c', 12), Services::quiet);
        same("load 2a10", service -> service.load(2, 'a', 10), Services::quiet);
        same("load 2b2", service -> service.load(2, 'b', 2), Services::quiet);
        same("borrow 24", service -> service.borrow(2, 4), Services::quiet);
        same("return 12", service -> service.giveBack(1, 2), Services::quiet);
        same("fix 0 2", service -> service.repair(0, 2), Services::quiet);
        same("home 0", service -> service.goHome(0), Services::quiet);
        same("rest 1 45", service -> service.rest(1, 45), Services::quiet);
    }

    private void same(String command, Twins.Call call, Supplier<RepairBarrows> made) {
        RepairBarrows called = made.get();
        RepairBarrows programmed = made.get();
        call.on(called);
        expect.same(command, 1, Text.run(programmed, command));
        List<String> dues = Answers.of(called);
        List<String> answers = Answers.of(programmed);
        for (int i = 0; i < dues.size(); i++) {
            expect.same(command, dues.get(i), answers.get(i));
        }
        expect.same(command + ", undo", called.undo(), programmed.undo());
        expect.same(command + ", number", Expect.outcome(() -> called.addJob(0, 0, 'a', 0, 1, 1)),
                Expect.outcome(() -> programmed.addJob(0, 0, 'a', 0, 1, 1)));
    }

    private void numbersOfThreeDigits() {
        expect.part("number = digit [ digit [ digit ] ]");
        for (String number : new String[] {"7", "07", "007", "12", "012", "99", "099"}) {
            RepairBarrows service = new RepairBarrows();
            expect.same("rest 2 " + number, 1, Text.run(service, "rest 2 " + number));
            expect.same("clock(2)", Integer.parseInt(number), service.clock(2));
            expect.same("stock a" + number, 1, Text.run(service, "stock a" + number));
            expect.same("stock(a)", Integer.parseInt(number), service.stock('a'));
        }
        for (int x : new int[] {0, 9, 10, 20}) {
            RepairBarrows service = new RepairBarrows();
            expect.same("job", 1, Text.run(service, "job " + x + ",0" + (20 - x) + " a0 1@100"));
            expect.same("finish", 21, service.finish(0, 0));
            expect.same("due", 100, service.due(0));
        }
        expectError("rest 2 0007", 10);
        expectError("rest 2 1000", 10);
        expectError("rest 2 ", 7);
        expectError("stock a0001", 10);
        expectError("load 0a0001", 10);
        expectError("cancel 0000", 10);
        expectError("take 0000", 8);
        expectError("fix 0 0000", 9);
        expectError("give 0000>0", 8);
        expectError("give >0", 5);
        expectError("job 0000,0 a0 1@1", 7);
        expectError("job ,0 a0 1@1", 4);
        expectError("job 0,0000 a0 1@1", 9);
        expectError("job 0, a0 1@1", 6);
        expectError("job 0,0 a0 1@0001", 16);
        expectError("job 0,0 a0 1@;", 13);
        expectError("job 0,0 a00 1@1", 10);
        expectError("job 0,0 a0 11@1", 12);
        expectError("give 0>00", 8);
        expectError("load 00a1", 6);
        expectError("borrow 000", 9);
        expectError("return 000", 9);
        expectError("fix 00 0", 5);
        expectError("home 00", 6);
        expectError("rest 00 1", 6);
    }

    /** A number that no method takes is still a program, and its command fails. */
    private void argumentsAtTheirEnds() {
        expect.part("47 run: what its method takes and what it refuses");
        String[] taken = {"job 0,0 a0 1@1", "job 20,20 d5 4@199", "stock a1", "stock d49", "load 0a1", "load 2d10",
            "borrow 00", "borrow 25", "home 0", "home 2", "rest 0 1", "rest 2 99"};
        for (String command : taken) {
            expect.same(command, 1, Text.run(Services.stocked(), command));
        }
        String[] refused = {"job 21,0 a0 1@1", "job 999,0 a0 1@1", "job 0,21 a0 1@1", "job 0,999 a0 1@1",
            "job 0,0 a6 1@1", "job 0,0 a9 1@1", "job 0,0 a0 0@1", "job 0,0 a0 5@1", "job 0,0 a0 9@1", "job 0,0 a0 1@0",
            "job 0,0 a0 1@200", "job 0,0 a0 1@999", "cancel 0", "cancel 999", "give 0>0", "give 999>9", "take 0",
            "take 999", "stock a0", "stock a50", "stock a99", "stock a100", "stock a999", "load 3a1", "load 9a1",
            "load 0a0", "load 0a11", "load 0a999", "borrow 30", "borrow 06", "borrow 99", "return 30", "return 06",
            "return 00", "fix 0 0", "fix 3 0", "fix 9 999", "home 3", "home 9", "rest 3 1", "rest 0 0", "rest 0 100",
            "rest 0 999"};
        for (String command : refused) {
            RepairBarrows service = Services.stocked();
            expect.fails(command, UNSUPPORTED, () -> Text.run(service, command));
            expect.same(command + ", failedCommand()", 0, service.failedCommand());
            expect.fails(command + ", errorPosition()", ELEMENT, service::errorPosition);
        }
    }

    private void properPrefixes() {
        expect.part("the length of the text if the text is a proper prefix of a program");
        for (String command : COMMANDS) {
            for (int length = 0; length < command.length(); length++) {
                String text = command.substring(0, length);
                if (!Model.isProgram(text)) {
                    expectError(text, length);
                    expectError("home 0;" + text, 7 + length);
                    expectErrorBehindOldText(command, text);
                }
            }
            expectError(command + ";", command.length() + 1);
        }
    }

    /** The old text would go on as the new one should. */
    private void expectErrorBehindOldText(String command, String text) {
        RepairBarrows service = new RepairBarrows();
        Expect.outcome(() -> Text.run(service, command));
        expect.fails("'" + text + "' behind '" + command + "'", ARGUMENT, () -> Text.run(service, text));
        expect.same("'" + text + "' errorPosition()", text.length(), service.errorPosition());
    }

    private void prefixesOfSixty() {
        expect.part("the length of the text, a proper prefix of 60 characters");
        String eight = "home 0;home 0;home 0;home 0;home 0;home 0;home 0;home 0;";
        for (String ninth : new String[] {"", "t", "job ", "canc", "give", "take", "stoc", "load", "borr", "retu",
            "fix ", "home", "rest"}) {
            expectError(eight + ninth, 56 + ninth.length());
        }
        expectError(eight + "hole", 58);
        expectError(eight + "x", 56);
        String rests = "rest 0 1;rest 0 1;rest 0 1;rest 0 1;rest 0 1;rest 0 1;";
        for (String end : new String[] {"stock ", "load 0", "rest 0", "fix 0 ", "job 1,", "give 1", "borrow",
            "cancel"}) {
            expectError(rests + end, 60);
        }
        expectError(rests.substring(9) + "job 1,2 a0 1@9;", 60);
        expectError(rests.substring(9) + "job 001,2 a0 1@", 60);
    }

    private void everySignAtEveryPlace() {
        expect.part("the index of the first character at which no program can continue");
        StringBuilder signs = new StringBuilder(FAR_SIGNS);
        for (char sign = 0; sign < 128; sign++) {
            signs.append(sign);
        }
        for (String command : COMMANDS) {
            for (int length = 0; length <= command.length(); length++) {
                for (int i = 0; i < signs.length(); i++) {
                    expectAsModel(command.substring(0, length) + signs.charAt(i));
                    expectAsModel("home 0;" + command.substring(0, length) + signs.charAt(i) + " 1");
                }
            }
        }
    }

    private void expectAsModel(String text) {
        if (!Model.isProgram(text)) {
            expectError(text, Model.errorIn(text));
            return;
        }
        RepairBarrows service = new RepairBarrows();
        Object answer = Expect.outcome(() -> Text.run(service, text));
        expect.same("'" + text + "' is a program", true, answer instanceof Integer || answer == UNSUPPORTED);
        expect.fails("'" + text + "' errorPosition()", ELEMENT, service::errorPosition);
    }

    private void expectError(String text, int position) {
        RepairBarrows service = new RepairBarrows();
        expect.fails("'" + text + "'", ARGUMENT, () -> Text.run(service, text));
        expect.same("'" + text + "' errorPosition()", position, Expect.outcome(service::errorPosition));
    }

    private void emptyText() {
        expect.part("47 run: an empty buffer");
        RepairBarrows service = new RepairBarrows();
        expect.fails("run()", ARGUMENT, service::run);
        expect.same("errorPosition()", 0, service.errorPosition());
        expect.fails("failedCommand()", ELEMENT, service::failedCommand);
        expect.same("a program", 1, Text.run(service, "home 0"));
        expect.fails("run() behind it", ARGUMENT, service::run);
    }

    private void latestError() {
        expect.part("48 errorPosition: of the latest text that was not a program");
        RepairBarrows service = new RepairBarrows();
        expect.fails("none", ELEMENT, service::errorPosition);
        String longest = "home 0;home 0;home 0;home 0;home 0;home 0;home 0;rest 2 123;";
        String[] texts = {"rest 1 x", "", longest, "h", longest.substring(0, 59).replace("rest", "test") + "1"};
        int[] positions = {7, 0, 60, 1, 50};
        for (int i = 0; i < texts.length; i++) {
            String text = texts[i];
            expect.fails(text, ARGUMENT, () -> Text.run(service, text));
            expect.same("'" + text + "'", positions[i], service.errorPosition());
            Expect.outcome(() -> Text.run(service, "home 3"));
            expect.same("after a failing program", positions[i], service.errorPosition());
            Text.run(service, "home 0");
            expect.same("after a program", positions[i], service.errorPosition());
        }
    }

    private void latestFailure() {
        expect.part("49 failedCommand: of the latest command that failed in a program");
        RepairBarrows service = new RepairBarrows();
        expect.fails("none", ELEMENT, service::failedCommand);
        expect.fails("refused by itself", ELEMENT, () -> service.cancelJob(0));
        expect.fails("still none", ELEMENT, service::failedCommand);
        String[] texts = {"home 0;home 3", "home 3;home 4", "home 0;home 0;home 0;home 0;home 0;home 0;home 0;home 3",
            "home 0;home 1;home 2;home 3;home 4"};
        int[] numbers = {1, 0, 7, 3};
        for (int i = 0; i < texts.length; i++) {
            String text = texts[i];
            expect.fails(text, UNSUPPORTED, () -> Text.run(service, text));
            expect.same(text, numbers[i], service.failedCommand());
            Expect.outcome(() -> Text.run(service, "home"));
            expect.same("after no program", numbers[i], service.failedCommand());
            Text.run(service, "home 0");
            expect.same("after a program", numbers[i], service.failedCommand());
        }
    }

    private void allOrNone() {
        expect.part("47 run: in order, either all of them or, if one of them fails, none");
        RepairBarrows service = new RepairBarrows();
        expect.same("each needs the one before", 6,
                Text.run(service, "stock a1;load 0a1;borrow 03;job 1,1 a3 1@9;give 0>0;fix 0 0"));
        expect.same("barrow", "0@1,1+3 t3", Text.barrow(service, 0));
        expect.same("repaired()", 1, service.repaired());
        expect.fails("the last one fails", UNSUPPORTED,
                () -> Text.run(service, "home 0;return 03;stock b9;job 1,1 b1 1@9;rest 0 1;fix 0 1"));
        expect.same("failedCommand()", 5, service.failedCommand());
        expect.same("barrow", "0@1,1+3 t3", Text.barrow(service, 0));
        expect.same("stock(b)", 0, service.stock('b'));
        expect.same("jobs()", 0, service.jobs());
        expect.same("the number is free", 1, service.addJob(0, 0, 'a', 0, 1, 1));
    }
}
