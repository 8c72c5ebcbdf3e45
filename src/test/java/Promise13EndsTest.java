/** Promise 13: ends. */
public final class Promise13EndsTest {
    public static void main(String[] args) {
        Checks.runAll(Promise13EndsTest.class);
    }

    private static void counted(Run run, int all, int deny, int law, int form, int inDefault) {
        run.go("ends(0) -> " + all, "ends(1) -> " + deny, "ends(3) -> " + law, "ends(4) -> " + form, "ends(7) -> " + inDefault);
    }

    static void withoutLinks() {
        // 10; 30; 60 10; 60 30
        counted(new Run("rules(last 5)"), 4, 2, 2, 0, 0);
    }

    static void ofEachSort() {
        // 10; 21 10; 21 30; 21 40; 21 60; 30; 60 10; 60 21; 60 30
        counted(new Run("link(0, 0, 1, true)", "rules(last 2)"), 9, 3, 3, 1, 2);
        // 10; 30; 51; 60
        counted(new Run("link(1, 0, 1, true)", "rules(last 1)"), 4, 1, 1, 0, 2);
    }

    static void fromTheRollOn() {
        Run run = new Run("link(0, 0, 1, true)", "rules(last 2)");
        counted(run.go("roll(21)"), 4, 1, 1, 1, 1);
        counted(run.go("back()", "roll(60)"), 3, 1, 1, 0, 1);
        counted(run.go("back()"), 9, 3, 3, 1, 2);
    }

    static void ofARollAtItsEndThatOneAlone() {
        String ready = "link(0, 0, 1, true)\nrules(last 2)\n";
        counted(new Run(ready, "roll(10)"), 1, 1, 0, 0, 0);
        counted(new Run(ready, "roll(30)"), 1, 0, 1, 0, 0);
        counted(new Run(ready, "roll(21 40)"), 1, 0, 0, 1, 0);
        counted(new Run(ready, "roll(21 60)"), 1, 0, 0, 0, 1);
        counted(new Run(ready, "roll(21 10)"), 1, 1, 0, 0, 0);
    }

    static void withoutAnyPleaItIsOneDefault() {
        counted(new Run(), 1, 0, 0, 0, 1);
        counted(new Run("rules(last 0)"), 1, 0, 0, 0, 1);
        counted(new Run("rules(bar d n=0;bar l n=0;bar t n=0)"), 1, 0, 0, 0, 1);
    }

    static void asManyAsThereCanBe() {
        counted(new Run(Given.allLinks(), "rules(days 2)"), 9334, 1891, 1891, 1464, 4088);
    }

    static void otherSortsAreNone() {
        Twins.changeNothing("ends(-1) -> NONE", "ends(2) -> NONE", "ends(5) -> NONE", "ends(6) -> NONE", "ends(8) -> NONE", "ends(10) -> NONE", "ends(MIN) -> NONE",
            "ends(MAX) -> NONE");
    }

    static void toAskChangesNothing() {
        // 10; 30; 40; 52 and 10, 30, 40, 60; 60 and 10, 30, 52
        Twins.changeNothing("ends(0) -> 10", "ends(1) -> 3", "ends(3) -> 3", "ends(4) -> 2", "ends(7) -> 2");
    }
}
