/** The examples of README.md, with the answers that stand behind them there. */
public final class ReadmeTests {
    private static int wrong = 0;

    private static void due(String call, long want, long got) {
        if (got != want) {
            wrong++;
            System.out.println(call + " answered " + got + ", due is " + want);
        }
    }

    public static void main(String[] args) {
        FamilyOaks oaks = new FamilyOaks();
        firstSteps(oaks);
        refused(oaks);
        text(oaks);
        System.out.println(wrong == 0 ? "all answers are as due" : wrong + " answers are not as due");
        if (wrong != 0) {
            System.exit(1);
        }
    }

    private static void firstSteps(FamilyOaks oaks) {
        due("found()", 0, oaks.found());
        due("born(0)", 1, oaks.born(0));
        due("give(0, 40)", 40, oaks.give(0, 40));
        due("die(0)", 1, oaks.die(0));
        due("personOf(1, 5)", 40, oaks.personOf(1, 5));
        due("undo()", 3, oaks.undo());
    }

    private static void refused(FamilyOaks oaks) {
        boolean isRefused = false;
        try {
            oaks.marry(0, 1);
        } catch (UnsupportedOperationException e) {
            isRefused = true;
        }
        due("marry(0, 1) is refused", 1, isRefused ? 1 : 0);
        due("refusal(false)", 7, oaks.refusal(false));
        due("refusal(true)", 1, oaks.refusal(true));
    }

    private static void text(FamilyOaks oaks) {
        for (char c : "f;b2;m1+3".toCharArray()) {
            oaks.append(c);
        }
        due("run()", 3, oaks.run());
        due("line(3)", 6, oaks.line(3));
        StringBuilder line = new StringBuilder();
        for (int i = 0; i < 6; i++) {
            line.append(oaks.character(i));
        }
        due("the line is #3<2+1", 1, line.toString().equals("#3<2+1") ? 1 : 0);
        due("character(1)", '3', oaks.character(1));
    }
}
