import java.util.NoSuchElementException;
import java.util.function.Consumer;
import java.util.function.Function;
import java.util.function.Supplier;

/**
 * Each sentence of ../shared/DOC.md that names a boundary case (too small, too large, empty, full, a wrap-around, a
 * refused call) has a test of its own here, which bears the sentence. No object is used for more than 512 calls.
 */
public final class BoundaryTests {
    private static final Class<?> INDEX = IndexOutOfBoundsException.class;
    private static final Class<?> ARGUMENT = IllegalArgumentException.class;
    private static final Class<?> STATE = IllegalStateException.class;
    private static final Class<?> NO_SUCH = NoSuchElementException.class;
    private static final Class<?> REFUSED = UnsupportedOperationException.class;
    private static final Class<?> ARITHMETIC = ArithmeticException.class;
    private static final int MIN = Integer.MIN_VALUE;
    private static final int MAX = Integer.MAX_VALUE;

    private static int tests = 0;
    private static int wrong = 0;
    private static String sentence = "";

    private interface Call {
        Object answer();
    }

    // What tests are made of.

    private static Object answerOf(Call call) {
        try {
            return call.answer();
        } catch (RuntimeException e) {
            return e.getClass();
        }
    }

    private static void due(Object want, Call call) {
        Object got = answerOf(call);
        if (!want.equals(got)) {
            wrong++;
            StackWalker.StackFrame place = StackWalker.getInstance().walk(frames ->
                frames.filter(frame -> frame.getMethodName().startsWith("lambda$promise")
                    || frame.getMethodName().startsWith("lambda$terms")).findFirst().orElse(null));
            System.out.println((place == null ? "" : "line " + place.getLineNumber() + ", ") + sentence
                + ": answered " + got + ", due is " + want);
        }
    }

    private static void test(String words, Runnable body) {
        tests++;
        sentence = words;
        body.run();
    }

    private static void refused(FamilyOaks oaks, int reason, int detail, Call call) {
        due(REFUSED, call);
        due(reason, () -> oaks.refusal(false));
        due(detail, () -> oaks.refusal(true));
    }

    /** The call throws, and what is told then is what a twin tells that has not been asked. */
    private static void untouched(Supplier<FamilyOaks> made, Class<?> want, Function<FamilyOaks, Object> call) {
        FamilyOaks asked = made.get();
        due(want, () -> call.apply(asked));
        FamilyOaks twin = made.get();
        boolean isReasonKept = want != REFUSED;
        due(stateOf(twin, isReasonKept), () -> stateOf(asked, isReasonKept));
    }

    private static void untouchedByRefusal(Supplier<FamilyOaks> made, int reason, int detail,
            Function<FamilyOaks, Object> call) {
        untouched(made, REFUSED, call);
        FamilyOaks asked = made.get();
        refused(asked, reason, detail, () -> call.apply(asked));
    }

    private static String stateOf(FamilyOaks oaks, boolean isReasonTold) {
        StringBuilder state = new StringBuilder();
        state.append(oaks.account(10)).append(' ').append(oaks.account(11)).append(' ');
        state.append(personsOf(oaks));
        for (int place = 0; place < oaks.account(4); place++) {
            state.append(oaks.quarrelAt(place, false)).append('-').append(oaks.quarrelAt(place, true)).append(' ');
        }
        state.append(oaks.houses()).append(' ').append(oaks.housesAgain()).append(' ').append(oaks.isWell());
        state.append(" line ").append(textOfLine(oaks));
        if (isReasonTold) {
            state.append(" reason ").append(answerOf(() -> oaks.refusal(false)));
            state.append(' ').append(answerOf(() -> oaks.refusal(true)));
        }
        state.append(" back to ").append(answerOf(oaks::undo)).append(' ').append(oaks.account(0));
        state.append(" saved ").append(answerOf(oaks::restore)).append(' ').append(oaks.account(1));
        return state.toString();
    }

    private static String textOfLine(FamilyOaks oaks) {
        StringBuilder text = new StringBuilder();
        Object sign = answerOf(() -> oaks.character(0));
        for (int i = 1; sign instanceof Character; i++) {
            int index = i;
            text.append(sign);
            sign = answerOf(() -> oaks.character(index));
        }
        return text.toString();
    }

    private static String lineOf(FamilyOaks oaks, int person) {
        oaks.line(person);
        return textOfLine(oaks);
    }

    private static void write(FamilyOaks oaks, String text) {
        for (char c : text.toCharArray()) {
            oaks.append(c);
        }
    }

    private static int runText(FamilyOaks oaks, String text) {
        write(oaks, text);
        return oaks.run();
    }

    /** Founds oaks of so many persons each, every person the child of the one before. */
    private static FamilyOaks chains(int... lengths) {
        FamilyOaks oaks = new FamilyOaks();
        for (int length : lengths) {
            int last = oaks.found();
            for (int i = 1; i < length; i++) {
                last = oaks.born(last);
            }
        }
        return oaks;
    }

    /** So many oaks of one person each. */
    private static FamilyOaks alone(int count) {
        FamilyOaks oaks = new FamilyOaks();
        for (int i = 0; i < count; i++) {
            oaks.found();
        }
        return oaks;
    }

    /** Two oaks, 0 to 3 and 4 to 8, each a root with children; 20 quarrels between them, in the order of 0 to 3. */
    private static FamilyOaks feud() {
        FamilyOaks oaks = star(4);
        oaks.found();
        for (int i = 0; i < 4; i++) {
            oaks.born(4);
        }
        for (int one = 0; one < 4; one++) {
            for (int other = 4; other < 9; other++) {
                oaks.quarrel(one, other);
            }
        }
        return oaks;
    }

    /** A root with children, so many persons together. */
    private static FamilyOaks star(int count) {
        FamilyOaks oaks = chains(1);
        for (int i = 1; i < count; i++) {
            oaks.born(0);
        }
        return oaks;
    }

    /** Of one oak of 24 the least number goes from 0 to 23, and from there down by one person each time. */
    private static FamilyOaks slowestHouse() {
        FamilyOaks oaks = alone(24);
        oaks.graft(23, 0);
        for (int person = 22; person > 0; person--) {
            oaks.graft(person, person + 1);
        }
        return oaks;
    }

    private static FamilyOaks with(FamilyOaks oaks, Consumer<FamilyOaks> changes) {
        changes.accept(oaks);
        return oaks;
    }

    private static void changeAsTold(FamilyOaks oaks, String order) {
        int first = order.length() > 1 ? order.charAt(1) - '0' : 0;
        int second = order.length() > 3 ? order.charAt(3) - '0' : 0;
        switch (order.charAt(0)) {
            case 'f': oaks.found(); break;
            case 'b': oaks.born(first); break;
            case 'g': oaks.graft(first, second); break;
            case 'c': oaks.cut(first); break;
            case 'm': oaks.marry(first, second); break;
            case 'p': oaks.part(first); break;
            case 'q': oaks.quarrel(first, second); break;
            case 'e': oaks.give(first, second); break;
            default: oaks.die(first);
        }
    }

    private static String personsOf(FamilyOaks oaks) {
        StringBuilder state = new StringBuilder();
        for (int what = 0; what <= 9; what++) {
            state.append(oaks.account(what)).append(' ');
        }
        for (int person = 0; person < oaks.account(0); person++) {
            for (int what = 0; what <= 9; what++) {
                state.append(oaks.personOf(person, what)).append(' ');
            }
        }
        return state.toString();
    }

    private static int[] beside(int count) {
        return new int[] {-1, count, count + 1, MIN, MAX, MIN + 1, MAX - 1, 24, 32, -24};
    }

    /** Asks about persons who are not there: of none, of some, and of 24. */
    private static void noPerson(java.util.function.BiFunction<FamilyOaks, Integer, Object> call) {
        due(INDEX, () -> call.apply(new FamilyOaks(), 0));
        for (int person : beside(3)) {
            untouched(() -> someState(), INDEX, oaks -> call.apply(oaks, person));
        }
        for (int person : new int[] {-1, 24, MIN, MAX}) {
            due(INDEX, () -> call.apply(alone(24), person));
        }
    }

    /** Three persons, of whom 2 is the child of 0, with something of all that can be changed. */
    private static FamilyOaks someState() {
        FamilyOaks oaks = alone(2);
        oaks.save();
        oaks.born(0);
        oaks.quarrel(1, 2);
        oaks.give(2, 40);
        oaks.line(2);
        oaks.append('f');
        answerOf(() -> oaks.cut(1));
        return oaks;
    }

    public static void main(String[] args) {
        terms();
        promises1To6();
        promises7To12();
        promises13To19();
        promises20To23();
        promises24To29();
        promises30To36();
        System.out.println(wrong == 0
            ? tests + " sentences, and all answers are as due" : wrong + " answers are not as due");
        if (wrong != 0) {
            System.exit(1);
        }
    }

    private static void promises1To6() {
        promise1();
        promise2();
        promise3();
        promise4();
        promise5();
        promise6();
    }

    private static void promises7To12() {
        promise7();
        promise8();
        promise9();
        promise10();
        promise11();
        promise12();
    }

    private static void promises13To19() {
        promise13();
        promise14();
        promise15();
        promise16();
        promise17();
        promises18And19();
    }

    private static void promises20To23() {
        promise20();
        promise21();
        promise22();
        promise23();
    }

    private static void promises24To29() {
        promise24();
        promise25();
        promise26();
        promise27();
        promise27Orders();
        promise28();
        promise29();
    }

    private static void promises30To36() {
        promise30();
        promise31();
        promise32();
        promise33();
        promise34();
        promise35();
        promise36();
    }

    // Terms.

    private static void terms() {
        termsOfPersons();
        termsOfLeaps();
        termsOfHouses();
        termsOfCoins();
        termsOfTexts();
        termsOfReasons();
        termsOfExceptions();
        termsInDoubt();
    }

    private static void termsOfPersons() {
        test("An object is used for at most 512 calls", () -> {
            FamilyOaks oaks = chains(1);
            for (int i = 0; i < 509; i++) {
                oaks.give(0, 999);
            }
            due(509 * 999, () -> oaks.account(8));
            due(509 * 999 + 1, () -> oaks.give(0, 1));
        });
        test("At most 24 persons come, numbered from 0", () -> {
            FamilyOaks oaks = new FamilyOaks();
            due(0, oaks::found);
            for (int i = 1; i < 23; i++) {
                oaks.born(i - 1);
            }
            due(23, oaks::found);
            due(REFUSED, oaks::found);
            due(REFUSED, () -> oaks.born(0));
            due(24, () -> oaks.account(0));
        });
        test("children, whose order is that of their numbers", () -> {
            FamilyOaks oaks = alone(4);
            oaks.graft(3, 1);
            oaks.graft(0, 1);
            oaks.graft(2, 1);
            due(0, () -> oaks.descendant(1, 0));
            due(2, () -> oaks.descendant(1, 1));
            due(3, () -> oaks.descendant(1, 2));
        });
        test("The depth of a person is how many elders it has", () -> {
            FamilyOaks oaks = chains(24);
            due(0, () -> oaks.personOf(0, 1));
            due(1, () -> oaks.personOf(1, 1));
            due(23, () -> oaks.personOf(23, 1));
        });
        test("A person lives, as at first, or is dead", () -> {
            FamilyOaks oaks = chains(2);
            due(1, () -> oaks.personOf(0, 6));
            due(1, () -> oaks.personOf(1, 6));
            oaks.die(0);
            due(0, () -> oaks.personOf(0, 6));
            due(1, () -> oaks.personOf(1, 6));
        });
    }

    private static void termsOfLeaps() {
        test("For each person the elders 1, 2, 4, 8 and 16 are noted", () -> {
            FamilyOaks oaks = chains(17);
            for (int elder : new int[] {1, 2, 4, 8, 16}) {
                due(16 - elder, () -> oaks.elder(16, elder, false));
                due(1, () -> oaks.leaps(16, elder));
                due(0, () -> oaks.elder(elder, elder, false));
                due(NO_SUCH, () -> oaks.elder(elder - 1, elder, false));
            }
        });
        test("the longest leap first, so that the leaps add up", () -> {
            FamilyOaks oaks = chains(24);
            for (int elder : new int[] {3, 5, 7, 9, 15, 17, 22, 23}) {
                due(23 - elder, () -> oaks.elder(23, elder, false));
                due(Integer.bitCount(elder), () -> oaks.leaps(23, elder));
            }
        });
        test("A common elder of two persons is one that is each of both, or an elder of it", () -> {
            FamilyOaks oaks = chains(3);
            due(2, () -> oaks.common(2, 2, false));
            due(1, () -> oaks.common(1, 2, false));
            due(0, () -> oaks.common(2, 0, false));
        });
        test("The degree is how many parents one goes up, and children down, together", () -> {
            FamilyOaks oaks = chains(13);
            int last = 0;
            for (int i = 13; i < 24; i++) {
                last = oaks.born(last);
            }
            due(0, () -> oaks.degree(12, 12));
            due(12, () -> oaks.degree(12, 0));
            due(11, () -> oaks.degree(0, 23));
            due(23, () -> oaks.degree(12, 23));
        });
        test("The descendants of a person: the first child, then its descendants, then the second child", () -> {
            FamilyOaks oaks = star(3);
            oaks.born(2);
            oaks.born(1);
            oaks.born(4);
            int[] order = {1, 4, 5, 2, 3};
            for (int i = 0; i < order.length; i++) {
                int place = i;
                due(order[place], () -> oaks.descendant(0, place));
            }
        });
    }

    private static void termsOfHouses() {
        test("Two persons can be married if their degree is above 4", () -> {
            FamilyOaks oaks = chains(6);
            due(REFUSED, () -> oaks.marry(0, 4));
            due(REFUSED, () -> oaks.marry(5, 1));
            due(0, () -> oaks.marry(0, 5));
        });
        test("Two persons can be married if they are of different oaks", () -> {
            FamilyOaks oaks = alone(2);
            due(0, () -> oaks.marry(1, 0));
        });
        test("its number is that of its lowest person", () -> {
            FamilyOaks oaks = alone(24);
            oaks.graft(1, 23);
            oaks.graft(0, 1);
            oaks.marry(23, 12);
            due(0, () -> oaks.personOf(12, 8));
            due(0, () -> oaks.personOf(23, 8));
            due(22, () -> oaks.personOf(22, 8));
            oaks.cut(0);
            due(1, () -> oaks.personOf(12, 8));
        });
        test("A marriage lasts until it is parted", () -> {
            FamilyOaks oaks = alone(2);
            oaks.marry(0, 1);
            due(1, () -> oaks.account(3));
            oaks.part(1);
            due(0, () -> oaks.account(3));
            due(-1, () -> oaks.personOf(0, 4));
        });
        test("or one of both dies", () -> {
            for (int dead = 0; dead < 2; dead++) {
                FamilyOaks oaks = alone(2);
                oaks.marry(0, 1);
                oaks.die(dead);
                due(0, () -> oaks.account(3));
                due(-1, () -> oaks.personOf(0, 4));
                due(-1, () -> oaks.personOf(1, 4));
            }
        });
        test("At most 20 quarrels are kept", () -> {
            FamilyOaks oaks = feud();
            due(20, () -> oaks.account(4));
            due(0, () -> oaks.quarrelAt(0, false));
            due(8, () -> oaks.quarrelAt(19, true));
            int other = oaks.found();
            due(REFUSED, () -> oaks.quarrel(0, other));
            due(20, () -> oaks.account(4));
        });
        test("Quarrels within one house end as soon as they are so, by a marriage", () -> {
            FamilyOaks oaks = feud();
            due(20, () -> oaks.marry(3, 8));
            due(0, () -> oaks.account(4));
            due(20, () -> oaks.account(5));
        });
        test("Quarrels within one house end as soon as they are so, by a graft", () -> {
            FamilyOaks oaks = feud();
            due(1, () -> oaks.graft(4, 3));
            due(0, () -> oaks.account(4));
            due(20, () -> oaks.account(5));
        });
    }

    private static void termsOfCoins() {
        test("A person has coins, at first none", () -> {
            FamilyOaks oaks = chains(2);
            due(0, () -> oaks.personOf(0, 5));
            due(0, () -> oaks.personOf(1, 5));
        });
        test("the heir: the first of its descendants, in their order, who lives", () -> {
            FamilyOaks oaks = with(star(3), o -> o.born(1));
            oaks.marry(0, oaks.found());
            oaks.die(1);
            due(3, () -> oaks.heir(0));
            oaks.die(3);
            due(2, () -> oaks.die(0));
        });
        test("if there is none, who it is married to", () -> {
            FamilyOaks oaks = chains(3, 1);
            oaks.marry(1, 3);
            oaks.die(2);
            due(3, () -> oaks.die(1));
        });
        test("if it is not married, the nearest one of its elders who lives", () -> {
            FamilyOaks oaks = chains(24);
            due(22, () -> oaks.heir(23));
            for (int i = 22; i > 0; i--) {
                oaks.die(i);
            }
            due(0, () -> oaks.die(23));
        });
        test("if there is none, they are lost", () -> {
            FamilyOaks oaks = chains(2);
            oaks.give(1, 999);
            oaks.die(0);
            due(-1, () -> oaks.die(1));
            due(999, () -> oaks.account(9));
            due(0, () -> oaks.account(7));
            due(0, () -> oaks.personOf(1, 5));
        });
        test("The line of a person, as in \"#7<3+12=40\"", () -> {
            FamilyOaks oaks = star(4);
            runText(oaks, "f;f;f;b3;f;f;f;f;f;m7+12;e7=40");
            due("#7<3+12=40", () -> lineOf(oaks, 7));
        });
        test("The line has \"<\", \"+\", \"=\" and \"x\" only if they apply", () -> {
            FamilyOaks oaks = chains(2, 1);
            due("#0", () -> lineOf(oaks, 0));
            due("#1<0", () -> lineOf(oaks, 1));
            oaks.marry(2, 1);
            due("#2+1", () -> lineOf(oaks, 2));
            oaks.give(0, 1);
            due("#0=1", () -> lineOf(oaks, 0));
            oaks.die(0);
            due("#0x", () -> lineOf(oaks, 0));
            due("#1<0+2=1", () -> lineOf(oaks, 1));
        });
    }

    private static void termsOfTexts() {
        test("The input has at most 60 characters", () -> {
            FamilyOaks oaks = new FamilyOaks();
            String text = "f;".repeat(24) + "m0+1;p0;m0+1";
            due(60, text::length);
            write(oaks, text);
            due(STATE, () -> oaks.append(';'));
            due(60, () -> oaks.account(10));
            due(27, oaks::run);
        });
        test("A text consists of orders with a semicolon between two of them", () -> {
            FamilyOaks oaks = new FamilyOaks();
            due(1, () -> runText(oaks, "f"));
            due(2, () -> runText(oaks, "f;f"));
            due(ARGUMENT, () -> runText(oaks, "f;f;"));
            due(ARGUMENT, () -> runText(oaks, ";f"));
            due(ARGUMENT, () -> runText(oaks, "f;;f"));
            due(ARGUMENT, () -> runText(oaks, "ff"));
            due(ARGUMENT, () -> runText(oaks, "f f"));
            due(3, () -> oaks.account(0));
        });
        test("Persons have one or two digits", () -> {
            FamilyOaks oaks = alone(12);
            due(4, () -> runText(oaks, "b9;b10;b01;b1"));
            due(9, () -> oaks.personOf(12, 0));
            due(10, () -> oaks.personOf(13, 0));
            due(1, () -> oaks.personOf(14, 0));
            due(1, () -> oaks.personOf(15, 0));
            due(ARGUMENT, () -> runText(oaks, "b"));
            due(1, oaks::errorPosition);
            due(ARGUMENT, () -> runText(oaks, "b001"));
            due(3, oaks::errorPosition);
            due(16, () -> oaks.account(0));
        });
        test("coins one to three", () -> {
            FamilyOaks oaks = chains(1);
            due(3, () -> runText(oaks, "e0=1;e0=20;e0=300"));
            due(321, () -> oaks.account(8));
            due(ARGUMENT, () -> runText(oaks, "e0="));
            due(3, oaks::errorPosition);
            due(ARGUMENT, () -> runText(oaks, "e0=0001"));
            due(6, oaks::errorPosition);
            due(1, () -> runText(oaks, "e0=001"));
            due(322, () -> oaks.account(8));
        });
        test("else nothing of it is, and the first order that cannot be decides what is thrown", () -> {
            Supplier<FamilyOaks> made = () -> with(alone(2), o -> o.die(1));
            untouchedByRefusal(made, 5, 0, o -> runText(o, "f;e0=5;c0;b9;d1"));
            untouched(made, ARGUMENT, o -> runText(o, "f;e0=5;b9;c0"));
            untouchedByRefusal(made, 2, 1, o -> runText(o, "f;d1;c0"));
        });
    }

    private static void termsOfReasons() {
        test("1, there are 24 persons: this number", () -> {
            FamilyOaks oaks = alone(24);
            refused(oaks, 1, 24, oaks::found);
            refused(oaks, 1, 24, () -> oaks.born(23));
        });
        test("1, there are 20 quarrels: this number", () -> {
            FamilyOaks oaks = with(feud(), FamilyOaks::found);
            refused(oaks, 1, 20, () -> oaks.quarrel(9, 0));
        });
        test("2, the person is dead: the person, of two the one that is told first", () -> {
            FamilyOaks oaks = alone(3);
            oaks.die(0);
            oaks.die(2);
            refused(oaks, 2, 0, () -> oaks.marry(0, 2));
            refused(oaks, 2, 2, () -> oaks.marry(2, 0));
            refused(oaks, 2, 0, () -> oaks.quarrel(0, 2));
            refused(oaks, 2, 2, () -> oaks.quarrel(2, 0));
            refused(oaks, 2, 2, () -> oaks.marry(1, 2));
            refused(oaks, 2, 0, () -> oaks.quarrel(1, 0));
            refused(oaks, 2, 0, () -> oaks.marry(0, 1));
        });
        test("3, it is no root: its parent", () -> {
            FamilyOaks oaks = chains(3, 1);
            refused(oaks, 3, 0, () -> oaks.graft(1, 3));
            refused(oaks, 3, 1, () -> oaks.graft(2, 3));
        });
        test("4, both are of one oak: its root", () -> {
            FamilyOaks oaks = chains(1, 3);
            refused(oaks, 4, 1, () -> oaks.graft(1, 3));
        });
        test("5, it is a root already: the person", () -> {
            FamilyOaks oaks = chains(2, 1);
            refused(oaks, 5, 2, () -> oaks.cut(2));
        });
        test("6, the person is married: to whom, of two as the one that is told first is", () -> {
            FamilyOaks oaks = alone(5);
            oaks.marry(0, 1);
            oaks.marry(2, 3);
            refused(oaks, 6, 1, () -> oaks.marry(0, 2));
            refused(oaks, 6, 3, () -> oaks.marry(2, 0));
            refused(oaks, 6, 2, () -> oaks.marry(4, 3));
            refused(oaks, 6, 2, () -> oaks.marry(3, 4));
            refused(oaks, 6, 0, () -> oaks.marry(1, 0));
        });
        test("7, they are too near: their degree", () -> {
            FamilyOaks oaks = chains(5);
            for (int i = 0; i < 5; i++) {
                int degree = i;
                refused(oaks, 7, degree, () -> oaks.marry(0, degree));
                refused(oaks, 7, degree, () -> oaks.marry(degree, 0));
            }
        });
        test("8, the person is not married: the person", () -> {
            FamilyOaks oaks = alone(2);
            refused(oaks, 8, 0, () -> oaks.part(0));
            refused(oaks, 8, 1, () -> oaks.part(1));
        });
        test("9, both are of one house: the house", () -> {
            FamilyOaks oaks = chains(1, 2, 1);
            oaks.marry(1, 3);
            refused(oaks, 9, 1, () -> oaks.quarrel(3, 2));
            refused(oaks, 9, 0, () -> oaks.quarrel(0, 0));
        });
        test("10, they quarrel already: how many quarrels there are", () -> {
            FamilyOaks oaks = alone(3);
            oaks.quarrel(0, 1);
            refused(oaks, 10, 1, () -> oaks.quarrel(0, 1));
            oaks.quarrel(0, 2);
            refused(oaks, 10, 2, () -> oaks.quarrel(1, 0));
            FamilyOaks full = feud();
            refused(full, 10, 20, () -> full.quarrel(3, 8));
        });
    }

    private static void termsOfExceptions() {
        test("The latest 8 can be undone", () -> {
            FamilyOaks oaks = alone(8);
            due(8, () -> oaks.account(11));
            oaks.found();
            due(8, () -> oaks.account(11));
            for (int i = 7; i >= 0; i--) {
                int left = i;
                due(left, oaks::undo);
            }
            due(STATE, oaks::undo);
            due(1, () -> oaks.account(0));
        });
        test("The changes are the successful calls of found, born, graft, cut, marry, part, quarrel, give, die"
            + " and run", () -> {
            FamilyOaks oaks = new FamilyOaks();
            oaks.found();
            due(1, () -> oaks.account(11));
            oaks.born(0);
            due(2, () -> oaks.account(11));
            oaks.cut(1);
            due(3, () -> oaks.account(11));
            oaks.quarrel(0, 1);
            due(4, () -> oaks.account(11));
            oaks.marry(0, 1);
            due(5, () -> oaks.account(11));
            oaks.part(0);
            due(6, () -> oaks.account(11));
            oaks.graft(0, 1);
            due(7, () -> oaks.account(11));
            oaks.undo();
            oaks.give(0, 1);
            due(7, () -> oaks.account(11));
            oaks.undo();
            oaks.die(0);
            due(7, () -> oaks.account(11));
            oaks.undo();
            runText(oaks, "f;f;f");
            due(7, () -> oaks.account(11));
        });
        test("restore forgets all", () -> {
            FamilyOaks oaks = alone(9);
            oaks.save();
            due(8, () -> oaks.account(11));
            oaks.restore();
            due(0, () -> oaks.account(11));
            due(STATE, oaks::undo);
        });
        test("If several exceptions apply, the one that is documented first is thrown", () -> {
            FamilyOaks oaks = chains(2, 1);
            oaks.die(1);
            due(INDEX, () -> oaks.personOf(3, 10));
            due(INDEX, () -> oaks.personOf(-1, -1));
            due(INDEX, () -> oaks.elder(3, -1, false));
            due(INDEX, () -> oaks.leaps(3, -1));
            due(INDEX, () -> oaks.descendant(3, -1));
            due(INDEX, () -> oaks.common(0, 3, true));
            due(INDEX, () -> oaks.graft(1, 3));
            due(INDEX, () -> oaks.marry(1, 3));
            due(INDEX, () -> oaks.quarrel(1, 3));
            due(INDEX, () -> oaks.wouldEnd(1, 3));
            due(INDEX, () -> oaks.give(3, 0));
            due(ARGUMENT, () -> oaks.give(1, 0));
            due(ARGUMENT, () -> oaks.give(1, 1000));
            due(NO_SUCH, () -> oaks.refusal(false));
        });
        test("The input, the line, the error position and the reason are neither undone nor saved, and stay", () -> {
            FamilyOaks oaks = chains(1);
            oaks.save();
            oaks.found();
            due(ARGUMENT, () -> runText(oaks, "fx"));
            due(REFUSED, () -> oaks.cut(1));
            oaks.line(1);
            oaks.append('f');
            oaks.undo();
            for (int i = 0; i < 2; i++) {
                due(1, () -> oaks.account(10));
                due("#1", () -> textOfLine(oaks));
                due(1, oaks::errorPosition);
                due(5, () -> oaks.refusal(false));
                due(1, () -> oaks.refusal(true));
                oaks.restore();
            }
        });
    }

    private static void termsInDoubt() {
        test("A graft ends no marriage, whatever the degree is then", () -> {
            FamilyOaks oaks = alone(2);
            oaks.marry(0, 1);
            oaks.graft(1, 0);
            due(1, () -> oaks.degree(0, 1));
            due(1, () -> oaks.personOf(0, 4));
            due(1, () -> oaks.account(3));
            oaks.part(1);
            refused(oaks, 7, 1, () -> oaks.marry(0, 1));
        });
        test("A cut ends no marriage, whatever the degree is then", () -> {
            FamilyOaks oaks = chains(6);
            oaks.marry(0, 5);
            oaks.cut(3);
            due(NO_SUCH, () -> oaks.degree(0, 5));
            due(5, () -> oaks.personOf(0, 4));
            due(1, oaks::houses);
        });
        test("Houses hang together by marriages that last alone", () -> {
            FamilyOaks oaks = alone(4);
            oaks.marry(0, 1);
            oaks.marry(2, 3);
            due(2, oaks::houses);
            oaks.part(0);
            due(3, oaks::houses);
            oaks.die(3);
            due(4, oaks::houses);
            due(2, () -> oaks.personOf(2, 8));
            due(3, () -> oaks.personOf(3, 8));
        });
        test("Two persons quarrel already, whichever of them was told first", () -> {
            FamilyOaks oaks = alone(2);
            oaks.quarrel(1, 0);
            refused(oaks, 10, 1, () -> oaks.quarrel(0, 1));
            refused(oaks, 10, 1, () -> oaks.quarrel(1, 0));
            due(1, () -> oaks.account(4));
        });
        test("Quarrels of one who dies stay", () -> {
            FamilyOaks oaks = alone(2);
            oaks.quarrel(0, 1);
            oaks.die(0);
            oaks.die(1);
            due(1, () -> oaks.account(4));
            due(0, () -> oaks.account(5));
            due(1, () -> oaks.personOf(0, 9));
            due(1, () -> oaks.quarrelAt(0, true));
        });
        test("The heir is told also if there are no coins", () -> {
            FamilyOaks oaks = chains(2);
            due(1, () -> oaks.die(0));
            due(0, () -> oaks.personOf(1, 5));
        });
        test("and the marriage ends behind that", () -> {
            FamilyOaks oaks = alone(2);
            oaks.marry(0, 1);
            oaks.give(0, 7);
            due(1, () -> oaks.die(0));
            due(7, () -> oaks.personOf(1, 5));
            due(-1, () -> oaks.personOf(1, 4));
        });
    }

    // Persons and oaks.

    private static void promise1() {
        test("1: Creates families without persons", () -> {
            FamilyOaks oaks = new FamilyOaks();
            for (int i = 0; i <= 11; i++) {
                int what = i;
                due(0, () -> oaks.account(what));
            }
            due(0, oaks::houses);
            due(0, oaks::housesAgain);
            due(true, oaks::isWell);
            due(NO_SUCH, () -> oaks.ranked(0));
            due(NO_SUCH, () -> oaks.quarrelAt(0, false));
            due(STATE, oaks::undo);
            due(STATE, oaks::restore);
        });
        test("1: objects share nothing", () -> {
            FamilyOaks one = chains(3);
            FamilyOaks other = new FamilyOaks();
            due(0, () -> other.account(0));
            other.found();
            due(3, () -> one.account(0));
            due(1, () -> other.houses());
        });
    }

    private static void promise2() {
        test("2: Returns its number", () -> {
            FamilyOaks oaks = new FamilyOaks();
            for (int i = 0; i < 24; i++) {
                int number = i;
                due(number, oaks::found);
            }
        });
        test("2: Throws UnsupportedOperationException if it is refused for reason 1", () -> {
            untouchedByRefusal(() -> alone(24), 1, 24, FamilyOaks::found);
            untouchedByRefusal(() -> chains(24), 1, 24, FamilyOaks::found);
            untouchedByRefusal(() -> with(alone(24), o -> o.die(0)), 1, 24, FamilyOaks::found);
        });
        test("2: 23 persons are not 24", () -> {
            FamilyOaks oaks = chains(23);
            due(23, oaks::found);
            due(REFUSED, oaks::found);
            oaks.undo();
            due(23, oaks::found);
        });
    }

    private static void promise3() {
        test("3: Returns its number", () -> {
            FamilyOaks oaks = alone(22);
            due(22, () -> oaks.born(21));
            due(23, () -> oaks.born(0));
            due(0, () -> oaks.personOf(23, 0));
        });
        test("3: Throws IndexOutOfBoundsException if there is no such person",
            () -> noPerson((oaks, person) -> oaks.born(person)));
        test("3: Throws UnsupportedOperationException if it is refused for reason 2", () ->
            untouchedByRefusal(() -> with(chains(3), o -> o.die(1)), 2, 1, o -> o.born(1)));
        test("3: or 1", () -> {
            untouchedByRefusal(() -> chains(24), 1, 24, o -> o.born(0));
            untouchedByRefusal(() -> alone(24), 1, 24, o -> o.born(23));
        });
        test("3: reason 2 before 1", () ->
            untouchedByRefusal(() -> with(alone(24), o -> o.die(23)), 2, 23, o -> o.born(23)));
    }

    private static void promise4() {
        test("4: Returns how many oaks there are then", () -> {
            FamilyOaks oaks = alone(24);
            for (int i = 1; i < 24; i++) {
                int root = i;
                due(24 - root, () -> oaks.graft(root, root - 1));
            }
            due(23, () -> oaks.personOf(23, 1));
            due(0, () -> oaks.elder(23, 23, false));
        });
        test("4: Throws IndexOutOfBoundsException if there is no such person, for either", () -> {
            noPerson((oaks, person) -> oaks.graft(person, 0));
            noPerson((oaks, person) -> oaks.graft(1, person));
            noPerson((oaks, person) -> oaks.graft(2, person));
            noPerson((oaks, person) -> oaks.graft(person, person));
        });
        test("4: Throws UnsupportedOperationException if it is refused for reason 3, for the root", () ->
            untouchedByRefusal(() -> chains(3, 1), 3, 1, o -> o.graft(2, 3)));
        test("4: or 4", () -> {
            untouchedByRefusal(() -> chains(3, 1), 4, 0, o -> o.graft(0, 2));
            untouchedByRefusal(() -> chains(3, 1), 4, 3, o -> o.graft(3, 3));
        });
        test("4: reason 3 before 4", () -> {
            untouchedByRefusal(() -> chains(3, 1), 3, 0, o -> o.graft(1, 2));
            untouchedByRefusal(() -> chains(3, 1), 3, 1, o -> o.graft(2, 2));
        });
    }

    private static void promise5() {
        test("5: Returns how many oaks there are then", () -> {
            FamilyOaks oaks = chains(24);
            for (int i = 1; i < 24; i++) {
                int person = i;
                due(person + 1, () -> oaks.cut(person));
            }
            due(0, () -> oaks.account(6));
        });
        test("5: Throws IndexOutOfBoundsException if there is no such person",
            () -> noPerson((oaks, person) -> oaks.cut(person)));
        test("5: Throws UnsupportedOperationException if it is refused for reason 5", () -> {
            untouchedByRefusal(() -> chains(3), 5, 0, o -> o.cut(0));
            untouchedByRefusal(() -> with(chains(3), o -> o.cut(2)), 5, 2, o -> o.cut(2));
            untouchedByRefusal(() -> with(chains(3), o -> o.die(0)), 5, 0, o -> o.cut(0));
        });
    }

    private static void promise6() {
        test("6: 0 for its parent, -1 without one", () -> {
            FamilyOaks oaks = chains(2);
            due(-1, () -> oaks.personOf(0, 0));
            due(0, () -> oaks.personOf(1, 0));
        });
        test("6: 2 for its children, 3 for its descendants", () -> {
            FamilyOaks oaks = star(24);
            due(23, () -> oaks.personOf(0, 2));
            due(23, () -> oaks.personOf(0, 3));
            due(0, () -> oaks.personOf(23, 2));
            due(0, () -> oaks.personOf(23, 3));
            FamilyOaks chain = chains(24);
            due(1, () -> chain.personOf(0, 2));
            due(23, () -> chain.personOf(0, 3));
        });
        test("6: 4 for whom it is married to, -1 if it is not", () -> {
            FamilyOaks oaks = alone(2);
            due(-1, () -> oaks.personOf(0, 4));
            oaks.marry(1, 0);
            due(1, () -> oaks.personOf(0, 4));
            due(0, () -> oaks.personOf(1, 4));
        });
        test("6: 6 for 1 if it lives, and 0 otherwise", () -> {
            FamilyOaks oaks = alone(1);
            due(1, () -> oaks.personOf(0, 6));
            oaks.die(0);
            due(0, () -> oaks.personOf(0, 6));
        });
        test("6: 9 for its quarrels", () -> {
            FamilyOaks oaks = alone(21);
            due(0, () -> oaks.personOf(0, 9));
            for (int i = 1; i <= 20; i++) {
                oaks.quarrel(i % 2 == 0 ? 0 : i, i % 2 == 0 ? i : 0);
            }
            due(20, () -> oaks.personOf(0, 9));
            due(1, () -> oaks.personOf(20, 9));
        });
        test("6: Throws IndexOutOfBoundsException if there is no such person", () -> {
            for (int i = 0; i <= 9; i++) {
                int what = i;
                due(INDEX, () -> chains(3).personOf(3, what));
                due(INDEX, () -> chains(3).personOf(-1, what));
            }
            noPerson((oaks, person) -> oaks.personOf(person, 0));
        });
        test("6: Throws IllegalArgumentException if what is not from 0 to 9", () -> {
            for (int what : new int[] {-1, 10, 11, MIN, MAX}) {
                untouched(BoundaryTests::someState, ARGUMENT, oaks -> oaks.personOf(0, what));
            }
        });
    }

    // Elders.

    private static void promise7() {
        for (boolean isAgain : new boolean[] {false, true}) {
            String way = isAgain ? "7, step by step: " : "7, by leaps: ";
            test(way + "0 for the person itself", () -> {
                FamilyOaks oaks = chains(24);
                due(0, () -> oaks.elder(0, 0, isAgain));
                due(23, () -> oaks.elder(23, 0, isAgain));
            });
            test(way + "Returns the elder", () -> {
                FamilyOaks oaks = chains(24);
                for (int i = 0; i < 24; i++) {
                    int elder = i;
                    due(23 - elder, () -> oaks.elder(23, elder, isAgain));
                    due(0, () -> oaks.elder(elder, elder, isAgain));
                }
            });
            test(way + "Throws IndexOutOfBoundsException if there is no such person",
                () -> noPerson((oaks, person) -> oaks.elder(person, 0, isAgain)));
            test(way + "Throws NoSuchElementException if there is no such elder", () -> {
                for (int elder : new int[] {-1, 2, 3, 4, 16, 24, 31, 32, MIN, MAX}) {
                    untouched(BoundaryTests::someState, NO_SUCH, oaks -> oaks.elder(2, elder, isAgain));
                }
                FamilyOaks oaks = chains(24);
                for (int i = 0; i < 24; i++) {
                    int person = i;
                    due(NO_SUCH, () -> oaks.elder(person, person + 1, isAgain));
                }
                due(NO_SUCH, () -> oaks.elder(23, 32, isAgain));
                due(NO_SUCH, () -> oaks.elder(23, MAX, isAgain));
            });
        }
    }

    private static void promise8() {
        for (boolean isAgain : new boolean[] {false, true}) {
            String way = isAgain ? "8, step by step: " : "8, by leaps: ";
            test(way + "Returns the elder", () -> {
                FamilyOaks oaks = chains(23);
                oaks.born(0);
                due(22, () -> oaks.common(22, 22, isAgain));
                due(0, () -> oaks.common(0, 22, isAgain));
                due(0, () -> oaks.common(22, 0, isAgain));
                due(21, () -> oaks.common(21, 22, isAgain));
                due(0, () -> oaks.common(22, 23, isAgain));
                due(0, () -> oaks.common(23, 1, isAgain));
                due(23, () -> oaks.common(23, 23, isAgain));
            });
            test(way + "two arms of the greatest length", () -> {
                FamilyOaks oaks = chains(13);
                int last = 0;
                for (int i = 13; i < 24; i++) {
                    last = oaks.born(last);
                }
                for (int i = 1; i < 12; i++) {
                    int person = i;
                    due(0, () -> oaks.common(person, 12 + person, isAgain));
                    due(0, () -> oaks.common(23, person, isAgain));
                    due(0, () -> oaks.common(12, 12 + person, isAgain));
                }
            });
            test(way + "Throws IndexOutOfBoundsException if there is no such person, for either", () -> {
                noPerson((oaks, person) -> oaks.common(person, 0, isAgain));
                noPerson((oaks, person) -> oaks.common(1, person, isAgain));
                noPerson((oaks, person) -> oaks.common(person, person, isAgain));
            });
            test(way + "Throws NoSuchElementException if they are of different oaks", () -> {
                untouched(BoundaryTests::someState, NO_SUCH, oaks -> oaks.common(1, 2, isAgain));
                untouched(BoundaryTests::someState, NO_SUCH, oaks -> oaks.common(0, 1, isAgain));
                FamilyOaks oaks = chains(12, 12);
                due(NO_SUCH, () -> oaks.common(11, 23, isAgain));
                oaks.marry(0, 12);
                due(NO_SUCH, () -> oaks.common(0, 12, isAgain));
            });
        }
    }

    private static void promise9() {
        test("9: Returns the degree", () -> {
            FamilyOaks oaks = chains(24);
            due(0, () -> oaks.degree(0, 0));
            due(1, () -> oaks.degree(22, 23));
            due(23, () -> oaks.degree(0, 23));
            due(23, () -> oaks.degree(23, 0));
        });
        test("9: Throws IndexOutOfBoundsException if there is no such person, for either", () -> {
            noPerson((oaks, person) -> oaks.degree(person, 0));
            noPerson((oaks, person) -> oaks.degree(1, person));
            noPerson((oaks, person) -> oaks.degree(person, person));
        });
        test("9: Throws NoSuchElementException if they are of different oaks", () -> {
            untouched(BoundaryTests::someState, NO_SUCH, oaks -> oaks.degree(1, 2));
            untouched(BoundaryTests::someState, NO_SUCH, oaks -> oaks.degree(0, 1));
        });
    }

    private static void promise10() {
        test("10: 0 for the person itself", () -> {
            FamilyOaks oaks = chains(24);
            due(0, () -> oaks.leaps(0, 0));
            due(0, () -> oaks.leaps(23, 0));
        });
        test("10: Returns how many leaps", () -> {
            FamilyOaks oaks = chains(24);
            due(1, () -> oaks.leaps(1, 1));
            due(4, () -> oaks.leaps(15, 15));
            due(1, () -> oaks.leaps(16, 16));
            due(2, () -> oaks.leaps(17, 17));
            due(4, () -> oaks.leaps(23, 23));
        });
        test("10: Throws IndexOutOfBoundsException if there is no such person",
            () -> noPerson((oaks, person) -> oaks.leaps(person, 0)));
        test("10: Throws NoSuchElementException if there is no such elder", () -> {
            for (int elder : new int[] {-1, 2, 4, 16, 24, 32, MIN, MAX}) {
                untouched(BoundaryTests::someState, NO_SUCH, oaks -> oaks.leaps(2, elder));
            }
            FamilyOaks oaks = chains(24);
            due(NO_SUCH, () -> oaks.leaps(0, 1));
            due(NO_SUCH, () -> oaks.leaps(15, 16));
            due(NO_SUCH, () -> oaks.leaps(23, 24));
        });
    }

    private static void promise11() {
        test("11: the person who has the greatest degree to it", () -> {
            FamilyOaks oaks = chains(24);
            due(23, () -> oaks.farthest(0));
            due(0, () -> oaks.farthest(23));
            due(23, () -> oaks.farthest(11));
            due(0, () -> oaks.farthest(12));
        });
        test("11: of several the lowest", () -> {
            FamilyOaks oaks = star(24);
            due(1, () -> oaks.farthest(0));
            due(2, () -> oaks.farthest(1));
            due(1, () -> oaks.farthest(23));
        });
        test("11: itself if it is alone", () -> {
            FamilyOaks oaks = alone(24);
            due(0, () -> oaks.farthest(0));
            due(23, () -> oaks.farthest(23));
            due(0, () -> chains(1).farthest(0));
        });
        test("11: Throws IndexOutOfBoundsException if there is no such person",
            () -> noPerson((oaks, person) -> oaks.farthest(person)));
    }

    private static void promise12() {
        test("12: its place in their order, from 0", () -> {
            FamilyOaks oaks = chains(24);
            due(1, () -> oaks.descendant(0, 0));
            due(23, () -> oaks.descendant(0, 22));
            due(23, () -> oaks.descendant(22, 0));
        });
        test("12: Throws IndexOutOfBoundsException if there is no such person",
            () -> noPerson((oaks, person) -> oaks.descendant(person, 0)));
        test("12: Throws NoSuchElementException if there is no such place", () -> {
            for (int place : new int[] {-1, 1, 2, 23, 24, MIN, MAX}) {
                untouched(BoundaryTests::someState, NO_SUCH, oaks -> oaks.descendant(0, place));
            }
            due(NO_SUCH, () -> chains(24).descendant(0, 23));
            due(NO_SUCH, () -> chains(24).descendant(22, 1));
            due(NO_SUCH, () -> chains(24).descendant(23, 0));
            due(NO_SUCH, () -> alone(1).descendant(0, 0));
        });
    }

    // Marriages and quarrels.

    private static void promise13() {
        test("13: Returns how many quarrels end", () -> {
            due(0, () -> alone(2).marry(0, 1));
            due(20, () -> feud().marry(0, 4));
            FamilyOaks oaks = alone(3);
            oaks.quarrel(0, 2);
            oaks.quarrel(1, 0);
            due(1, () -> oaks.marry(0, 1));
        });
        test("13: Throws IndexOutOfBoundsException if there is no such person, for either", () -> {
            noPerson((oaks, person) -> oaks.marry(person, 0));
            noPerson((oaks, person) -> oaks.marry(1, person));
            noPerson((oaks, person) -> oaks.marry(person, person));
        });
        test("13: Throws UnsupportedOperationException if it is refused for reason 2", () -> {
            Supplier<FamilyOaks> made = () -> with(alone(3), o -> o.die(1));
            untouchedByRefusal(made, 2, 1, o -> o.marry(1, 0));
            untouchedByRefusal(made, 2, 1, o -> o.marry(0, 1));
            untouchedByRefusal(made, 2, 1, o -> o.marry(1, 1));
        });
        test("13: 6", () -> {
            Supplier<FamilyOaks> made = () -> with(alone(4), o -> o.marry(1, 2));
            untouchedByRefusal(made, 6, 2, o -> o.marry(1, 0));
            untouchedByRefusal(made, 6, 2, o -> o.marry(0, 1));
            untouchedByRefusal(made, 6, 2, o -> o.marry(1, 2));
            untouchedByRefusal(made, 6, 1, o -> o.marry(2, 2));
        });
        test("13: or 7", () -> {
            untouchedByRefusal(() -> chains(6), 7, 4, o -> o.marry(1, 5));
            untouchedByRefusal(() -> star(3), 7, 2, o -> o.marry(1, 2));
        });
        test("13: with 0 for one and the same", () -> {
            untouchedByRefusal(() -> alone(24), 7, 0, o -> o.marry(0, 0));
            untouchedByRefusal(() -> alone(24), 7, 0, o -> o.marry(23, 23));
        });
        test("13: reason 2 before 6, and 6 before 7", () -> {
            FamilyOaks oaks = chains(3, 2);
            oaks.marry(1, 3);
            oaks.die(2);
            refused(oaks, 2, 2, () -> oaks.marry(1, 2));
            refused(oaks, 6, 3, () -> oaks.marry(0, 1));
            refused(oaks, 6, 3, () -> oaks.marry(1, 1));
        });
    }

    private static void promise14() {
        test("14: Returns the other one", () -> {
            FamilyOaks oaks = alone(24);
            oaks.marry(23, 0);
            due(0, () -> oaks.part(23));
            oaks.marry(23, 0);
            due(23, () -> oaks.part(0));
        });
        test("14: Throws IndexOutOfBoundsException if there is no such person",
            () -> noPerson((oaks, person) -> oaks.part(person)));
        test("14: Throws UnsupportedOperationException if it is refused for reason 8", () -> {
            Supplier<FamilyOaks> parted = () -> with(alone(3), o -> {
                o.marry(0, 1);
                o.part(0);
            });
            untouchedByRefusal(parted, 8, 0, o -> o.part(0));
            untouchedByRefusal(parted, 8, 1, o -> o.part(1));
            Supplier<FamilyOaks> widowed = () -> with(alone(3), o -> {
                o.marry(0, 1);
                o.die(0);
            });
            untouchedByRefusal(widowed, 8, 0, o -> o.part(0));
            untouchedByRefusal(widowed, 8, 1, o -> o.part(1));
            untouchedByRefusal(() -> with(alone(3), o -> o.marry(0, 1)), 8, 2, o -> o.part(2));
        });
    }

    private static void promise15() {
        test("15: Returns how many quarrels there are then", () -> {
            FamilyOaks oaks = star(11);
            oaks.found();
            oaks.found();
            for (int i = 0; i < 20; i++) {
                int place = i;
                due(place + 1, () -> oaks.quarrel(place % 10, 11 + place / 10));
            }
        });
        test("15: Throws IndexOutOfBoundsException if there is no such person, for either", () -> {
            noPerson((oaks, person) -> oaks.quarrel(person, 0));
            noPerson((oaks, person) -> oaks.quarrel(1, person));
            noPerson((oaks, person) -> oaks.quarrel(person, person));
        });
        test("15: Throws UnsupportedOperationException if it is refused for reason 2", () -> {
            Supplier<FamilyOaks> made = () -> with(alone(3), o -> o.die(1));
            untouchedByRefusal(made, 2, 1, o -> o.quarrel(1, 0));
            untouchedByRefusal(made, 2, 1, o -> o.quarrel(0, 1));
        });
        test("15: 9", () -> {
            untouchedByRefusal(() -> chains(2, 1), 9, 0, o -> o.quarrel(1, 0));
            untouchedByRefusal(() -> chains(2, 1), 9, 2, o -> o.quarrel(2, 2));
            untouchedByRefusal(() -> with(chains(2, 1), o -> o.marry(2, 1)), 9, 0, o -> o.quarrel(2, 0));
        });
        test("15: 10", () -> {
            untouchedByRefusal(() -> with(alone(3), o -> o.quarrel(2, 0)), 10, 1, o -> o.quarrel(2, 0));
            untouchedByRefusal(() -> with(alone(3), o -> o.quarrel(2, 0)), 10, 1, o -> o.quarrel(0, 2));
        });
        test("15: or 1", () -> {
            untouchedByRefusal(() -> with(feud(), FamilyOaks::found), 1, 20, o -> o.quarrel(9, 8));
            untouchedByRefusal(() -> with(feud(), FamilyOaks::found), 1, 20, o -> o.quarrel(0, 9));
        });
        test("15: 19 quarrels are not 20", () -> {
            FamilyOaks oaks = with(feud(), FamilyOaks::found);
            oaks.undo();
            oaks.undo();
            due(20, () -> oaks.quarrel(8, 3));
            due(8, () -> oaks.quarrelAt(19, false));
        });
        test("15: reason 2 before 9, 9 before 10, and 10 before 1", () -> {
            FamilyOaks oaks = with(feud(), o -> o.die(1));
            refused(oaks, 2, 1, () -> oaks.quarrel(1, 1));
            refused(oaks, 2, 1, () -> oaks.quarrel(0, 1));
            refused(oaks, 2, 1, () -> oaks.quarrel(4, 1));
            refused(oaks, 9, 0, () -> oaks.quarrel(0, 0));
            refused(oaks, 9, 4, () -> oaks.quarrel(8, 4));
            refused(oaks, 10, 20, () -> oaks.quarrel(8, 0));
        });
    }

    private static void promise16() {
        test("16: the place of the quarrel, from 0", () -> {
            FamilyOaks oaks = feud();
            for (int i = 0; i < 20; i++) {
                int place = i;
                due(place / 5, () -> oaks.quarrelAt(place, false));
                due(4 + place % 5, () -> oaks.quarrelAt(place, true));
            }
        });
        test("16: in the order in which they began", () -> {
            FamilyOaks oaks = alone(4);
            oaks.quarrel(0, 1);
            oaks.quarrel(3, 1);
            oaks.quarrel(2, 0);
            oaks.marry(0, 1);
            oaks.quarrel(2, 3);
            int[] first = {3, 2, 2};
            int[] second = {1, 0, 3};
            for (int i = 0; i < 3; i++) {
                int place = i;
                due(first[place], () -> oaks.quarrelAt(place, false));
                due(second[place], () -> oaks.quarrelAt(place, true));
            }
        });
        test("16: Throws NoSuchElementException if there is no such place", () -> {
            for (boolean isOther : new boolean[] {false, true}) {
                due(NO_SUCH, () -> new FamilyOaks().quarrelAt(0, isOther));
                for (int place : new int[] {-1, 1, 2, 19, 20, MIN, MAX}) {
                    untouched(BoundaryTests::someState, NO_SUCH, oaks -> oaks.quarrelAt(place, isOther));
                }
                due(NO_SUCH, () -> feud().quarrelAt(20, isOther));
                due(NO_SUCH, () -> with(feud(), o -> o.marry(0, 4)).quarrelAt(0, isOther));
            }
        });
    }

    private static void promise17() {
        test("17: Returns how many", () -> {
            due(0, () -> alone(2).wouldEnd(0, 1));
            due(20, () -> feud().wouldEnd(0, 4));
            due(20, () -> feud().wouldEnd(8, 3));
            due(0, () -> chains(6).wouldEnd(0, 5));
            due(0, () -> with(feud(), FamilyOaks::found).wouldEnd(9, 0));
        });
        test("17: those of other houses than these two do not count", () -> {
            FamilyOaks oaks = alone(5);
            oaks.quarrel(0, 2);
            oaks.quarrel(2, 1);
            oaks.quarrel(3, 4);
            due(0, () -> oaks.wouldEnd(0, 1));
            due(0, () -> oaks.wouldEnd(1, 0));
            due(1, () -> oaks.wouldEnd(2, 0));
        });
        test("17: if two persons were married now: they are not", () -> {
            FamilyOaks oaks = feud();
            oaks.wouldEnd(0, 4);
            due(20, () -> oaks.account(4));
            due(0, () -> oaks.account(3));
            due(2, oaks::houses);
        });
        test("17: Throws IndexOutOfBoundsException if there is no such person, for either", () -> {
            noPerson((oaks, person) -> oaks.wouldEnd(person, 0));
            noPerson((oaks, person) -> oaks.wouldEnd(1, person));
            noPerson((oaks, person) -> oaks.wouldEnd(person, person));
        });
        test("17: Throws IllegalStateException if they cannot be married", () -> {
            Supplier<FamilyOaks> made = () -> with(chains(6, 1, 1, 1), o -> {
                o.marry(6, 7);
                o.die(8);
            });
            int[][] pairs = {{0, 0}, {0, 4}, {4, 0}, {6, 6}, {6, 7}, {0, 6}, {7, 0}, {8, 8}, {0, 8}, {8, 0}, {6, 8}};
            for (int[] pair : pairs) {
                untouched(made, STATE, oaks -> oaks.wouldEnd(pair[0], pair[1]));
            }
        });
    }

    private static void promises18And19() {
        for (boolean isAgain : new boolean[] {false, true}) {
            String way = isAgain ? "19: " : "18: ";
            Function<FamilyOaks, Object> houses = oaks -> isAgain ? oaks.housesAgain() : oaks.houses();
            test(way + "no houses without persons", () -> {
                due(0, () -> houses.apply(new FamilyOaks()));
                due(0, () -> houses.apply(with(chains(1), FamilyOaks::undo)));
            });
            test(way + "one house, and 24", () -> {
                due(1, () -> houses.apply(alone(1)));
                due(1, () -> houses.apply(chains(24)));
                due(1, () -> houses.apply(star(24)));
                due(24, () -> houses.apply(alone(24)));
                due(23, () -> houses.apply(with(alone(24), o -> o.marry(0, 23))));
            });
            test(way + "by a parent, a child or a marriage, until nothing changes", () -> {
                FamilyOaks oaks = alone(24);
                for (int i = 22; i >= 0; i--) {
                    int person = i;
                    oaks.graft(person, person + 1);
                }
                due(1, () -> houses.apply(oaks));
                due(1, () -> houses.apply(slowestHouse()));
                due(2, () -> houses.apply(with(slowestHouse(), o -> o.cut(23))));
                due(2, () -> houses.apply(with(slowestHouse(), o -> o.cut(1))));
                FamilyOaks pairs = new FamilyOaks();
                for (int i = 0; i < 12; i++) {
                    pairs.born(pairs.found());
                }
                for (int i = 23; i > 2; i -= 2) {
                    pairs.marry(i, i - 3);
                }
                due(1, () -> houses.apply(pairs));
            });
        }
    }

    // Coins.

    private static void promise20() {
        test("20: how many, 1 to 999", () -> {
            FamilyOaks oaks = alone(1);
            due(1, () -> oaks.give(0, 1));
            due(1000, () -> oaks.give(0, 999));
            due(1000, () -> oaks.account(7));
        });
        test("20: Returns its coins then", () -> {
            FamilyOaks oaks = chains(2);
            oaks.give(0, 999);
            oaks.give(1, 999);
            due(1, () -> oaks.die(0));
            due(1999, () -> oaks.give(1, 1));
        });
        test("20: Throws IndexOutOfBoundsException if there is no such person", () -> {
            noPerson((oaks, person) -> oaks.give(person, 1));
            noPerson((oaks, person) -> oaks.give(person, 0));
        });
        test("20: Throws IllegalArgumentException if the number is out of range", () -> {
            for (int coins : new int[] {0, -1, -999, 1000, 1001, MIN, MAX}) {
                untouched(BoundaryTests::someState, ARGUMENT, oaks -> oaks.give(0, coins));
            }
        });
        test("20: the range before reason 2", () -> {
            for (int coins : new int[] {0, 1000}) {
                untouched(() -> with(chains(2), o -> o.die(0)), ARGUMENT, oaks -> oaks.give(0, coins));
            }
        });
        test("20: Throws UnsupportedOperationException if it is refused for reason 2", () -> {
            for (int coins : new int[] {1, 999}) {
                untouchedByRefusal(() -> with(chains(2), o -> o.die(1)), 2, 1, oaks -> oaks.give(1, coins));
            }
        });
    }

    private static void promise21() {
        test("21: Returns the heir", () -> {
            due(1, () -> chains(24).die(0));
            due(23, () -> chains(24).die(22));
            due(22, () -> chains(24).die(23));
        });
        test("21: -1 if there is none", () -> {
            FamilyOaks oaks = chains(3);
            oaks.give(0, 1);
            due(1, () -> oaks.die(0));
            due(2, () -> oaks.die(1));
            due(0, () -> oaks.account(9));
            due(-1, () -> oaks.die(2));
            due(1, () -> oaks.account(9));
            due(-1, () -> alone(24).die(23));
        });
        test("21: no coins are lost where there are none", () ->
            due(0, () -> with(alone(1), o -> o.die(0)).account(9)));
        test("21: Throws IndexOutOfBoundsException if there is no such person",
            () -> noPerson((oaks, person) -> oaks.die(person)));
        test("21: Throws UnsupportedOperationException if it is refused for reason 2", () -> {
            untouchedByRefusal(() -> with(chains(2), o -> o.die(0)), 2, 0, o -> o.die(0));
            untouchedByRefusal(() -> with(alone(24), o -> o.die(23)), 2, 23, o -> o.die(23));
        });
    }

    private static void promise22() {
        test("22: Returns the heir", () -> {
            FamilyOaks oaks = chains(2, 1);
            due(1, () -> oaks.heir(0));
            due(0, () -> oaks.heir(1));
            oaks.marry(1, 2);
            due(2, () -> oaks.heir(1));
            due(1, () -> oaks.heir(0));
        });
        test("22: -1 if there is none", () -> {
            due(-1, () -> alone(24).heir(0));
            FamilyOaks oaks = chains(3);
            oaks.die(0);
            oaks.die(2);
            due(-1, () -> oaks.heir(1));
        });
        test("22: if a person died now: it does not", () -> {
            FamilyOaks oaks = chains(2);
            oaks.give(0, 5);
            oaks.heir(0);
            due(5, () -> oaks.personOf(0, 5));
            due(1, () -> oaks.personOf(0, 6));
        });
        test("22: Throws IndexOutOfBoundsException if there is no such person",
            () -> noPerson((oaks, person) -> oaks.heir(person)));
        test("22: Throws IllegalStateException if the person is dead", () ->
            untouched(() -> with(chains(2), o -> o.die(0)), STATE, o -> o.heir(0)));
    }

    private static void promise23() {
        test("23: the most first", () -> {
            FamilyOaks oaks = alone(24);
            for (int person = 1; person < 24; person++) {
                oaks.give(person, person);
            }
            for (int i = 0; i < 24; i++) {
                int place = i;
                due(23 - place, () -> oaks.ranked(place));
            }
        });
        test("23: of several the lowest", () -> {
            FamilyOaks oaks = alone(24);
            due(0, () -> oaks.ranked(0));
            due(23, () -> oaks.ranked(23));
            oaks.give(22, 1);
            oaks.give(20, 1);
            due(20, () -> oaks.ranked(0));
            due(22, () -> oaks.ranked(1));
            due(0, () -> oaks.ranked(2));
            due(21, () -> oaks.ranked(22));
        });
        test("23: Throws NoSuchElementException if there is no such place", () -> {
            due(NO_SUCH, () -> new FamilyOaks().ranked(0));
            due(NO_SUCH, () -> new FamilyOaks().ranked(-1));
            for (int place : new int[] {-1, 3, 4, 23, 24, MIN, MAX}) {
                untouched(BoundaryTests::someState, NO_SUCH, oaks -> oaks.ranked(place));
            }
            due(NO_SUCH, () -> alone(24).ranked(24));
        });
    }

    // Lines, texts, accounts, undo and snapshot.

    private static void promise24() {
        test("24: Returns its length", () -> {
            FamilyOaks oaks = chains(11);
            due(2, () -> oaks.line(0));
            due(4, () -> oaks.line(1));
            due(5, () -> oaks.line(10));
            oaks.marry(10, 0);
            due(7, () -> oaks.line(10));
            due(5, () -> oaks.line(0));
            oaks.give(10, 9);
            due(9, () -> oaks.line(10));
        });
        test("24: in place of the line before", () -> {
            FamilyOaks oaks = chains(12);
            due("#11<10", () -> lineOf(oaks, 11));
            due("#0", () -> lineOf(oaks, 0));
            due(INDEX, () -> oaks.character(2));
            due("#1<0", () -> lineOf(oaks, 1));
        });
        test("24: the line of great coins", () -> {
            FamilyOaks oaks = alone(24);
            for (int i = 0; i < 400; i++) {
                oaks.give(23, 999);
            }
            oaks.marry(22, 23);
            due("#23+22=399600", () -> lineOf(oaks, 23));
        });
        test("24: Throws IndexOutOfBoundsException if there is no such person",
            () -> noPerson((oaks, person) -> oaks.line(person)));
    }

    private static void promise25() {
        test("25: the line, which is empty at first", () -> {
            FamilyOaks oaks = alone(1);
            due(INDEX, () -> oaks.character(0));
            due(INDEX, () -> new FamilyOaks().character(0));
        });
        test("25: the index, from 0", () -> {
            FamilyOaks oaks = chains(11);
            oaks.line(10);
            due('#', () -> oaks.character(0));
            due('1', () -> oaks.character(1));
            due('9', () -> oaks.character(4));
        });
        test("25: Throws IndexOutOfBoundsException if there is no such index", () -> {
            for (int index : new int[] {-1, 7, 8, 60, MIN, MAX}) {
                untouched(BoundaryTests::someState, INDEX, oaks -> {
                    due(7, () -> oaks.line(2));
                    return oaks.character(index);
                });
            }
        });
    }

    private static void promise26() {
        test("26: Returns the characters in the input then", () -> {
            FamilyOaks oaks = new FamilyOaks();
            for (int i = 1; i <= 60; i++) {
                int length = i;
                due(length, () -> oaks.append('f'));
            }
        });
        test("26: any character", () -> {
            FamilyOaks oaks = new FamilyOaks();
            due(1, () -> oaks.append((char) 0));
            due(2, () -> oaks.append((char) 0xffff));
            due(3, () -> oaks.append((char) 0xd800));
            due(ARGUMENT, oaks::run);
            due(0, oaks::errorPosition);
        });
        test("26: Throws IllegalStateException if the input contains 60 characters", () -> {
            untouched(() -> with(someState(), o -> write(o, "f".repeat(59))), STATE, oaks -> oaks.append('f'));
            FamilyOaks oaks = new FamilyOaks();
            write(oaks, "f;".repeat(24) + "d0;d1;d2;d10");
            due(STATE, () -> oaks.append('0'));
            due(28, oaks::run);
            due(1, () -> oaks.append('f'));
        });
    }

    private static void promise27() {
        test("27: the input, which is empty afterwards", () -> {
            FamilyOaks oaks = new FamilyOaks();
            due(1, () -> runText(oaks, "f"));
            due(0, () -> oaks.account(10));
            due(ARGUMENT, oaks::run);
        });
        test("27: also if an exception is thrown", () -> {
            FamilyOaks oaks = alone(1);
            for (String text : new String[] {"", "x", "b1", "c0", "f;"}) {
                due(text.equals("c0") ? REFUSED : ARGUMENT, () -> runText(oaks, text));
                due(0, () -> oaks.account(10));
            }
            due(1, () -> oaks.account(0));
            due(1, () -> runText(oaks, "f"));
        });
        test("27: Returns the number of orders", () -> {
            FamilyOaks oaks = new FamilyOaks();
            due(1, () -> runText(oaks, "f"));
            due(20, () -> runText(oaks, "f;".repeat(19) + "f"));
            due(3, () -> runText(oaks, "d0;d1;d2"));
            due(18, () -> oaks.account(1));
        });
        test("27: Throws IllegalArgumentException if the text has an error", () -> {
            untouched(() -> with(someState(), o -> answerOf(o::run)), ARGUMENT, o -> runText(o, "f;f;f;x"));
            untouched(() -> with(someState(), o -> answerOf(o::run)), ARGUMENT, o -> runText(o, "c2;"));
            untouched(() -> with(someState(), o -> answerOf(o::run)), ARGUMENT, o -> runText(o, "c0;b9;x"));
            untouched(() -> with(someState(), o -> answerOf(o::run)), ARGUMENT, FamilyOaks::run);
        });
        test("27: if the text has no error, its position is -1", () -> {
            FamilyOaks oaks = alone(1);
            due(ARGUMENT, () -> runText(oaks, "f;f;"));
            due(4, oaks::errorPosition);
            due(ARGUMENT, () -> runText(oaks, "f;b9"));
            due(-1, oaks::errorPosition);
            due(ARGUMENT, () -> runText(oaks, "e0=0"));
            due(-1, oaks::errorPosition);
        });
        test("27: Throws UnsupportedOperationException if it is refused", () -> {
            Supplier<FamilyOaks> made = () -> with(someState(), o -> answerOf(o::run));
            untouchedByRefusal(made, 5, 1, o -> runText(o, "f;b3;m2+3;c1"));
            untouchedByRefusal(made, 1, 24, o -> runText(o, "f;".repeat(29) + "f"));
            untouchedByRefusal(made, 7, 4, o -> runText(o, "b2;b4;b5;b6;b7;m8+4"));
        });
        test("27: a run of 30 orders is refused at the 25th person", () -> {
            FamilyOaks oaks = new FamilyOaks();
            due(REFUSED, () -> runText(oaks, "f;".repeat(29) + "f"));
            due(-1, oaks::errorPosition);
            due(0, () -> oaks.account(0));
            due(0, () -> oaks.account(11));
        });
    }

    private static void promise27Orders() {
        Supplier<FamilyOaks> made = () -> with(chains(2, 1, 1), o -> {
            o.die(3);
            o.quarrel(0, 2);
        });
        String[] noPersons = {"b4", "b99", "g4<0", "g2<4", "g1<99", "c4", "m4+0", "m0+4", "m3+24", "p4", "q4-0",
            "q0-4", "e4=1", "e4=0", "d4", "d24"};
        for (String text : noPersons) {
            test("27: the method for an order would throw IndexOutOfBoundsException: " + text, () -> {
                untouched(made, ARGUMENT, o -> runText(o, text));
                untouched(made, ARGUMENT, o -> runText(o, "d2;" + text + ";c0"));
            });
        }
        for (String text : new String[] {"e0=0", "e0=00", "e0=000", "e3=0"}) {
            test("27: the method for an order would throw IllegalArgumentException: " + text, () -> {
                untouched(made, ARGUMENT, o -> runText(o, text));
                untouched(made, ARGUMENT, o -> runText(o, "d2;" + text + ";c0"));
            });
        }
        Object[][] refusals = {{"b3", 2, 3}, {"g1<2", 3, 0}, {"g0<1", 4, 0}, {"c2", 5, 2}, {"m0+3", 2, 3},
            {"m0+2;m4+2", 6, 0}, {"m0+1", 7, 1}, {"m2+2", 7, 0}, {"p0", 8, 0}, {"q3-0", 2, 3}, {"q0-1", 9, 0},
            {"q2-0", 10, 1}, {"e3=1", 2, 3}, {"d3", 2, 3}};
        for (Object[] row : refusals) {
            String text = (String) row[0];
            test("27: it is refused for a reason of the method for an order: " + text, () -> {
                int reason = (Integer) row[1];
                int detail = (Integer) row[2];
                untouchedByRefusal(made, reason, detail, o -> runText(o, "f;" + text));
                untouchedByRefusal(made, reason, detail, o -> runText(o, "f;" + text + ";b99"));
            });
        }
        test("27: it is refused for a reason of the method for an order: f and b of 25, q of 21", () -> {
            untouchedByRefusal(() -> alone(23), 1, 24, o -> runText(o, "f;f"));
            untouchedByRefusal(() -> alone(23), 1, 24, o -> runText(o, "f;b23"));
            untouchedByRefusal(BoundaryTests::feud, 1, 20, o -> runText(o, "f;q9-8"));
        });
    }

    private static void errorAt(int position, String text) {
        FamilyOaks oaks = alone(1);
        due(ARGUMENT, () -> runText(oaks, text));
        due(position, oaks::errorPosition);
        due(1, () -> oaks.account(0));
    }

    private static void promise28() {
        test("28: -1 if run has not been called", () -> due(-1, () -> new FamilyOaks().errorPosition()));
        test("28: -1 if that text had no error", () -> {
            FamilyOaks oaks = alone(1);
            due(ARGUMENT, oaks::run);
            due(0, oaks::errorPosition);
            runText(oaks, "f");
            due(-1, oaks::errorPosition);
            due(ARGUMENT, () -> runText(oaks, "f0"));
            due(1, oaks::errorPosition);
            due(REFUSED, () -> runText(oaks, "c0"));
            due(-1, oaks::errorPosition);
        });
        test("28: of the latest call of run, not of what is appended since", () -> {
            FamilyOaks oaks = alone(1);
            due(ARGUMENT, () -> runText(oaks, "f;x"));
            write(oaks, "fx");
            due(2, oaks::errorPosition);
            due(ARGUMENT, oaks::run);
            due(1, oaks::errorPosition);
        });
        test("28: the offset of the first character that cannot continue such a text", () -> {
            for (char c : "xF09;<+-= \n\0\u00e9".toCharArray()) {
                errorAt(0, "" + c);
                errorAt(2, "f;" + c);
            }
            for (char letter : "bcpdgmqe".toCharArray()) {
                for (char c : "f;<+-= x/:\0\u00b2\u0660".toCharArray()) {
                    errorAt(1, "" + letter + c);
                }
                errorAt(3, letter + "000");
            }
            for (char letter : "bcpd".toCharArray()) {
                for (char c : "f<+-= x".toCharArray()) {
                    errorAt(2, letter + "0" + c);
                    errorAt(3, letter + "00" + c);
                }
            }
            errorAt(1, "f0");
            errorAt(1, "ff");
            errorAt(1, "f<");
        });
        test("28: the sign of an order, and behind it", () -> {
            String letters = "gmqe";
            String signs = "<+-=";
            for (int i = 0; i < 4; i++) {
                for (int j = 0; j < 4; j++) {
                    char letter = letters.charAt(i);
                    char sign = signs.charAt(j);
                    errorAt(i == j ? 3 : 2, letter + "0" + sign);
                    errorAt(i == j ? 4 : 3, letter + "00" + sign + ";");
                }
                errorAt(2, letters.charAt(i) + "0;");
                errorAt(letters.charAt(i) == 'e' ? 6 : 5, letters.charAt(i) + "0" + signs.charAt(i) + "0000");
                errorAt(4, letters.charAt(i) + "0" + signs.charAt(i) + "0" + signs.charAt(i));
            }
        });
        test("28: or the length of the text if it ends too early", () -> {
            errorAt(0, "");
            errorAt(2, "f;");
            for (char letter : "bcpdgmqe".toCharArray()) {
                errorAt(1, "" + letter);
            }
            for (String text : new String[] {"g0", "m00", "q0", "e00", "g0<", "m00+", "q0-", "e00="}) {
                errorAt(text.length(), text);
                errorAt(2 + text.length(), "f;" + text);
            }
        });
        test("28: in a full input", () -> {
            errorAt(60, "f;".repeat(30));
            errorAt(60, "f;".repeat(28) + "e00=");
            errorAt(60, "f;".repeat(28) + "b00;");
            errorAt(59, "f;".repeat(29) + "fx");
            errorAt(58, "f;".repeat(29) + "xf");
            errorAt(59, "f;".repeat(29) + "b");
        });
    }

    private static void promise29() {
        test("29: Throws NoSuchElementException if nothing was refused", () -> {
            FamilyOaks oaks = alone(2);
            due(INDEX, () -> oaks.born(2));
            due(ARGUMENT, () -> oaks.give(0, 0));
            due(ARGUMENT, () -> runText(oaks, "f;b9"));
            due(ARGUMENT, () -> runText(oaks, "x"));
            due(STATE, () -> oaks.wouldEnd(0, 0));
            oaks.die(0);
            due(STATE, () -> oaks.heir(0));
            due(NO_SUCH, () -> oaks.refusal(false));
            due(NO_SUCH, () -> oaks.refusal(true));
        });
        test("29: Returns the reason of the latest refusal", () -> {
            FamilyOaks oaks = chains(2, 1);
            refused(oaks, 5, 0, () -> oaks.cut(0));
            refused(oaks, 8, 2, () -> oaks.part(2));
            refused(oaks, 7, 1, () -> runText(oaks, "f;m1+0"));
            oaks.found();
            due(INDEX, () -> oaks.cut(9));
            due(7, () -> oaks.refusal(false));
            due(1, () -> oaks.refusal(true));
        });
        test("29: a detail of 0 is told, too", () -> {
            FamilyOaks oaks = alone(1);
            refused(oaks, 5, 0, () -> oaks.cut(0));
        });
    }

    private static void promise30() {
        test("30: 6 for the greatest depth, 0 without persons", () -> {
            due(0, () -> new FamilyOaks().account(6));
            due(0, () -> alone(24).account(6));
            due(23, () -> chains(24).account(6));
        });
        test("30: the accounts without anything", () -> {
            for (int i = 0; i <= 11; i++) {
                int what = i;
                due(0, () -> new FamilyOaks().account(what));
            }
        });
        test("30: the accounts of persons, oaks and marriages at their most", () -> {
            FamilyOaks oaks = alone(24);
            for (int i = 0; i < 12; i++) {
                oaks.marry(i, 23 - i);
            }
            due(24, () -> oaks.account(0));
            due(24, () -> oaks.account(1));
            due(24, () -> oaks.account(2));
            due(12, () -> oaks.account(3));
            for (int i = 0; i < 24; i++) {
                oaks.die(i);
            }
            due(24, () -> oaks.account(0));
            due(0, () -> oaks.account(1));
            due(24, () -> oaks.account(2));
            due(0, () -> oaks.account(3));
        });
        test("30: 4 for the quarrels, 5 for the quarrels that ended so far", () -> {
            FamilyOaks oaks = feud();
            due(20, () -> oaks.account(4));
            due(0, () -> oaks.account(5));
            oaks.marry(0, 4);
            due(0, () -> oaks.account(4));
            due(20, () -> oaks.account(5));
            oaks.part(0);
            oaks.quarrel(0, 4);
            oaks.graft(0, 8);
            due(21, () -> oaks.account(5));
        });
        test("30: 7 for all coins of persons, 8 for the coins given so far, 9 for the coins lost so far", () -> {
            FamilyOaks oaks = alone(2);
            oaks.give(0, 999);
            oaks.give(1, 1);
            oaks.die(0);
            due(1, () -> oaks.account(7));
            due(1000, () -> oaks.account(8));
            due(999, () -> oaks.account(9));
        });
        test("30: 10 for the characters in the input", () -> {
            FamilyOaks oaks = new FamilyOaks();
            write(oaks, "f".repeat(60));
            due(60, () -> oaks.account(10));
            due(ARGUMENT, oaks::run);
            due(0, () -> oaks.account(10));
        });
        test("30: 11 for the changes that can be undone", () -> {
            due(7, () -> alone(7).account(11));
            due(8, () -> alone(8).account(11));
            due(8, () -> alone(9).account(11));
            due(8, () -> alone(24).account(11));
        });
        test("30: Throws IllegalArgumentException if what is not from 0 to 11", () -> {
            for (int what : new int[] {-1, 12, 13, MIN, MAX}) {
                untouched(BoundaryTests::someState, ARGUMENT, oaks -> oaks.account(what));
            }
        });
    }

    private static void promise31() {
        test("31: Tells whether all is well, without persons and with all", () -> {
            due(true, () -> new FamilyOaks().isWell());
            due(true, () -> chains(24).isWell());
            due(true, () -> alone(24).isWell());
            due(true, () -> star(24).isWell());
        });
        test("31: no quarrel is within a house", () -> {
            FamilyOaks oaks = feud();
            due(true, oaks::isWell);
            oaks.marry(0, 4);
            due(true, oaks::isWell);
            oaks.undo();
            due(true, oaks::isWell);
        });
        test("31: coins given are those that persons have, and those lost", () -> {
            FamilyOaks oaks = alone(2);
            oaks.give(0, 999);
            oaks.give(1, 999);
            oaks.die(0);
            due(true, oaks::isWell);
            oaks.die(1);
            due(true, oaks::isWell);
            due(REFUSED, () -> runText(oaks, "f;e2=9;d2;d2"));
            due(true, oaks::isWell);
        });
    }

    private static void promise32() {
        test("32: Returns the sum divided by their number, both as doubles", () -> {
            due(0.0, () -> alone(1).meanDepth());
            due(11.5, () -> chains(24).meanDepth());
            due(23.0 / 24.0, () -> star(24).meanDepth());
            due(1.0 / 3.0, () -> chains(2, 1).meanDepth());
        });
        test("32: Throws ArithmeticException if there are no persons", () -> {
            untouched(FamilyOaks::new, ARITHMETIC, FamilyOaks::meanDepth);
            untouched(() -> with(alone(1), FamilyOaks::undo), ARITHMETIC, FamilyOaks::meanDepth);
        });
    }

    private static void promise33() {
        test("33: Returns their number divided by that of all, both as floats", () -> {
            due(1.0f, () -> alone(24).livingShare());
            due(0.0f, () -> with(alone(1), o -> o.die(0)).livingShare());
            due(23.0f / 24.0f, () -> with(alone(24), o -> o.die(23)).livingShare());
            due(2.0f / 3.0f, () -> with(alone(3), o -> o.die(0)).livingShare());
        });
        test("33: Throws ArithmeticException if there are no persons", () -> {
            untouched(FamilyOaks::new, ARITHMETIC, FamilyOaks::livingShare);
            untouched(() -> with(alone(1), FamilyOaks::undo), ARITHMETIC, FamilyOaks::livingShare);
        });
    }

    private static void promise34() {
        test("34: Returns the number of changes that can still be undone", () -> {
            due(0, () -> alone(1).undo());
            due(6, () -> alone(7).undo());
            due(7, () -> alone(8).undo());
            due(7, () -> alone(9).undo());
        });
        test("34: Throws IllegalStateException if no change can be undone", () -> {
            untouched(FamilyOaks::new, STATE, FamilyOaks::undo);
            untouched(() -> with(alone(1), FamilyOaks::undo), STATE, FamilyOaks::undo);
            untouched(() -> with(someState(), FamilyOaks::restore), STATE, FamilyOaks::undo);
        });
        test("34: eight are undone, many times around", () -> {
            FamilyOaks oaks = alone(1);
            for (int round = 1; round <= 3; round++) {
                for (int i = 0; i < 8 + round; i++) {
                    oaks.give(0, round);
                }
                int left = oaks.account(7) - 8 * round;
                for (int i = 7; i >= 0; i--) {
                    int still = i;
                    due(still, oaks::undo);
                }
                due(left, () -> oaks.personOf(0, 5));
                due(STATE, oaks::undo);
            }
        });
        test("34: Undoes the latest change, whichever it was", () -> {
            for (String change : new String[] {"f", "b0", "g0<2", "c1", "m1+3", "p4", "q1-3", "e1=9", "d1"}) {
                Supplier<FamilyOaks> made = () -> with(chains(2, 1, 1, 1, 1), o -> {
                    o.marry(4, 5);
                    o.quarrel(0, 2);
                    o.quarrel(0, 3);
                    o.give(1, 40);
                });
                FamilyOaks oaks = made.get();
                changeAsTold(oaks, change);
                due(7, oaks::undo);
                due(personsOf(made.get()), () -> personsOf(oaks));
            }
        });
        test("34: quarrels that ended come back to their places", () -> {
            FamilyOaks oaks = feud();
            for (int i = 0; i < 2; i++) {
                oaks.marry(0, 4);
                oaks.part(0);
                oaks.quarrel(8, 3);
                oaks.undo();
                oaks.undo();
                oaks.undo();
                due(0, () -> oaks.quarrelAt(0, false));
                due(4, () -> oaks.quarrelAt(0, true));
                due(3, () -> oaks.quarrelAt(19, false));
                due(8, () -> oaks.quarrelAt(19, true));
            }
        });
        test("34: a refused call is no change", () -> {
            FamilyOaks oaks = alone(2);
            due(REFUSED, () -> oaks.cut(0));
            due(REFUSED, () -> runText(oaks, "f;f;c0"));
            due(ARGUMENT, () -> runText(oaks, "f;f;b9"));
            due(1, oaks::undo);
            due(1, () -> oaks.account(0));
        });
    }

    private static void promise35() {
        test("35: Returns the persons", () -> {
            due(0, () -> new FamilyOaks().save());
            due(1, () -> alone(1).save());
            due(24, () -> alone(24).save());
        });
        test("35: in place of an earlier one", () -> {
            FamilyOaks oaks = alone(24);
            oaks.save();
            oaks.undo();
            oaks.save();
            oaks.die(0);
            due(23, oaks::restore);
            due(23, () -> oaks.account(1));
        });
        test("35: it is no change, and forgets none", () -> {
            FamilyOaks oaks = alone(3);
            oaks.save();
            due(3, () -> oaks.account(11));
            due(2, oaks::undo);
            due(2, () -> oaks.account(0));
        });
    }

    private static void promise36() {
        test("36: Returns the persons", () -> {
            FamilyOaks oaks = new FamilyOaks();
            oaks.save();
            due(24, () -> with(oaks, o -> runText(o, "f;".repeat(23) + "f")).account(0));
            due(0, oaks::restore);
            due(0, oaks::houses);
            due(INDEX, () -> oaks.line(0));
            due(0, oaks::found);
            due(-1, () -> oaks.personOf(0, 0));
        });
        test("36: the snapshot, which stays", () -> {
            FamilyOaks oaks = chains(2);
            oaks.save();
            for (int i = 0; i < 3; i++) {
                oaks.cut(1);
                oaks.give(0, 9);
                oaks.die(0);
                due(2, oaks::restore);
                due(0, () -> oaks.personOf(1, 0));
                due(0, () -> oaks.account(8));
                due(2, () -> oaks.account(1));
            }
        });
        test("36: undo leaves the snapshot", () -> {
            FamilyOaks oaks = alone(2);
            oaks.save();
            oaks.undo();
            oaks.undo();
            due(0, () -> oaks.account(0));
            due(2, oaks::restore);
        });
        test("36: everything that changes can change", () -> {
            FamilyOaks oaks = feud();
            oaks.give(8, 999);
            oaks.save();
            oaks.marry(0, 4);
            oaks.die(8);
            oaks.cut(3);
            oaks.give(1, 1);
            oaks.born(1);
            oaks.restore();
            due(20, () -> oaks.account(4));
            due(0, () -> oaks.account(5));
            due(999, () -> oaks.account(8));
            due(999, () -> oaks.personOf(8, 5));
            due(9, () -> oaks.account(1));
            due(0, () -> oaks.personOf(3, 0));
            due(-1, () -> oaks.personOf(4, 4));
            due(2, oaks::houses);
            due(2, oaks::housesAgain);
            due(8, () -> oaks.quarrelAt(19, true));
        });
        test("36: Throws IllegalStateException if there is no snapshot", () -> {
            untouched(FamilyOaks::new, STATE, FamilyOaks::restore);
            untouched(() -> alone(24), STATE, FamilyOaks::restore);
        });
    }
}
