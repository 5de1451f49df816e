/** The example of README.md answers what is told there. */
public final class ReadmeTest {
    public static void main(String[] args) {
        Due due = new Due();
        BankTimes memory = new BankTimes(1, 2, 1);
        due.is("channels", 2, () -> memory.count(12));
        due.is("banks", 4, () -> memory.count(13));
        due.is("time(0, 4)", 3, () -> memory.time(0, 4));
        due.is("span(500)", 0, () -> memory.span(500));
        due.is("ask(0x1234, false)", 0, () -> memory.ask(0x1234, false));
        due.is("run(100)", 1, () -> memory.run(100));
        due.is("done(0)", 5, () -> memory.done(0));
        due.is("command(0, 2)", 0, () -> memory.command(0, 2));
        due.is("open(1, 1)", 36, () -> memory.open(1, 1));
        due.is("check(0, 10, 0, 3, 77)", 0, () -> memory.check(0, 10, 0, 3, 77));
        due.is("check(0, 11, 1, 3, 77)", 3, () -> memory.check(0, 11, 1, 3, 77));
        memory.begin();
        due.is("check(0, 10, 0, 3, 77) anew", 0, () -> memory.check(0, 10, 0, 3, 77));
        due.end();
    }
}
