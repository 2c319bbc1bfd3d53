import java.util.NoSuchElementException;

/** For each promise of ../shared/DOC.md: ordinary inputs, the edges that it names, and wrong inputs. */
public final class PromiseTests {
    private static int wrong = 0;
    private static int promise = 0;

    private interface Call {
        Object answer();
    }

    private static void due(Object want, Call call) {
        Object got;
        try {
            got = call.answer();
        } catch (RuntimeException e) {
            got = e.getClass();
        }
        if (!want.equals(got)) {
            wrong++;
            StackTraceElement place = new Throwable().getStackTrace()[1];
            System.out.println("promise " + promise + ", line " + place.getLineNumber()
                + ": answered " + got + ", due is " + want);
        }
    }

    private static void noPerson(Call call) {
        due(IndexOutOfBoundsException.class, call);
    }

    private static void noSuch(Call call) {
        due(NoSuchElementException.class, call);
    }

    private static void refused(FamilyOaks oaks, int reason, int detail, Call call) {
        due(UnsupportedOperationException.class, call);
        due(reason, () -> oaks.refusal(false));
        due(detail, () -> oaks.refusal(true));
    }

    private static void write(FamilyOaks oaks, String text) {
        for (char c : text.toCharArray()) {
            oaks.append(c);
        }
    }

    private static Object runText(FamilyOaks oaks, String text) {
        write(oaks, text);
        return oaks.run();
    }

    private static String lineOf(FamilyOaks oaks, int person) {
        StringBuilder line = new StringBuilder();
        int length = oaks.line(person);
        for (int i = 0; i < length; i++) {
            line.append(oaks.character(i));
        }
        return line.toString();
    }

    /** Founds oaks of so many persons each, every person the child of the one before. */
    private static FamilyOaks chains(int... lengths) {
        FamilyOaks oaks = new FamilyOaks();
        for (int length : lengths) {
            int last = oaks.found();
            for (int i = 1; i < length; i++) {
                last = oaks.born(last);
            }
        }
        return oaks;
    }

    /** 0 has 1 and 2; 1 has 3, 4 and 7; 2 has 5; 5 has 6 and 8; 9 is alone. */
    private static FamilyOaks tree() {
        FamilyOaks oaks = new FamilyOaks();
        oaks.found();
        for (int parent : new int[] {0, 0, 1, 1, 2, 5, 1, 5}) {
            oaks.born(parent);
        }
        oaks.found();
        return oaks;
    }

    public static void main(String[] args) {
        promise1();
        promise2();
        promise3();
        promise4();
        promise5();
        promise6();
        promise7();
        promise8();
        promise9();
        promise10();
        promise11();
        promise12();
        promise13();
        promise14();
        promise15();
        promise16();
        promise17();
        promise18();
        promise19();
        promise20();
        promise21();
        promise22();
        promise23();
        promise24();
        promise25();
        promise26();
        promise27();
        promise27Errors();
        promise28();
        promise29();
        promise30();
        promise31();
        promise32();
        promise33();
        promise34();
        promise35();
        promise36();
        System.out.println(wrong == 0 ? "all answers are as due" : wrong + " answers are not as due");
        if (wrong != 0) {
            System.exit(1);
        }
    }

    private static void promise1() {
        promise = 1;
        FamilyOaks oaks = new FamilyOaks();
        for (int what = 0; what <= 11; what++) {
            int asked = what;
            due(0, () -> oaks.account(asked));
        }
        due(0, oaks::houses);
        due(-1, oaks::errorPosition);
        noPerson(() -> oaks.personOf(0, 0));
        due(0, oaks::found);
        due(0, () -> new FamilyOaks().account(0));
    }

    private static void promise2() {
        promise = 2;
        FamilyOaks oaks = new FamilyOaks();
        for (int i = 0; i < 24; i++) {
            int number = i;
            due(number, oaks::found);
            due(-1, () -> oaks.personOf(number, 0));
            due(1, () -> oaks.personOf(number, 6));
            due(0, () -> oaks.personOf(number, 5));
            due(-1, () -> oaks.personOf(number, 4));
        }
        refused(oaks, 1, 24, oaks::found);
        due(24, () -> oaks.account(0));
        due(24, () -> oaks.account(2));
        due(8, () -> oaks.account(11));
    }

    private static void promise3() {
        promise = 3;
        FamilyOaks oaks = chains(1);
        noPerson(() -> oaks.born(1));
        noPerson(() -> oaks.born(-1));
        noPerson(() -> oaks.born(Integer.MAX_VALUE));
        noPerson(() -> oaks.born(Integer.MIN_VALUE));
        due(1, () -> oaks.born(0));
        due(2, () -> oaks.born(0));
        due(3, () -> oaks.born(2));
        due(2, () -> oaks.personOf(3, 0));
        due(1, () -> oaks.account(2));
        oaks.die(2);
        refused(oaks, 2, 2, () -> oaks.born(2));
        due(4, () -> oaks.account(0));
        for (int i = 4; i < 24; i++) {
            oaks.found();
        }
        refused(oaks, 2, 2, () -> oaks.born(2));
        refused(oaks, 1, 24, () -> oaks.born(3));
        noPerson(() -> oaks.born(24));
    }

    private static void promise4() {
        promise = 4;
        FamilyOaks oaks = chains(3, 2, 1);
        noPerson(() -> oaks.graft(6, 0));
        noPerson(() -> oaks.graft(0, 6));
        noPerson(() -> oaks.graft(-1, 0));
        noPerson(() -> oaks.graft(0, -1));
        refused(oaks, 3, 1, () -> oaks.graft(2, 5));
        refused(oaks, 3, 0, () -> oaks.graft(1, 2));
        refused(oaks, 4, 0, () -> oaks.graft(0, 2));
        refused(oaks, 4, 5, () -> oaks.graft(5, 5));
        due(2, () -> oaks.graft(3, 1));
        due(1, () -> oaks.personOf(3, 0));
        due(3, () -> oaks.personOf(4, 1));
        due(0, () -> oaks.personOf(4, 7));
        due(4, () -> oaks.elder(4, 0, false));
        due(0, () -> oaks.elder(4, 3, false));
        due(1, () -> oaks.graft(0, 5));
        due(5, () -> oaks.personOf(4, 7));
        graftOfTheDead();
        graftEndsQuarrels();
    }

    private static void graftOfTheDead() {
        FamilyOaks oaks = chains(1, 1);
        oaks.die(0);
        oaks.die(1);
        due(1, () -> oaks.graft(0, 1));
        due(1, () -> oaks.personOf(0, 0));
    }

    private static void graftEndsQuarrels() {
        FamilyOaks oaks = chains(2, 2, 1, 1);
        oaks.quarrel(1, 2);
        oaks.quarrel(4, 0);
        oaks.quarrel(3, 0);
        oaks.quarrel(5, 4);
        oaks.marry(3, 5);
        due(3, () -> oaks.graft(2, 1));
        due(2, () -> oaks.account(5));
        due(2, () -> oaks.account(4));
        due(4, () -> oaks.quarrelAt(0, false));
        due(5, () -> oaks.quarrelAt(1, false));
        due(5, () -> oaks.personOf(3, 4));
        oaks.graft(0, 5);
        due(5, () -> oaks.personOf(3, 4));
        due(2, () -> oaks.account(4));
    }

    private static void promise5() {
        promise = 5;
        FamilyOaks oaks = chains(4);
        noPerson(() -> oaks.cut(4));
        noPerson(() -> oaks.cut(-1));
        refused(oaks, 5, 0, () -> oaks.cut(0));
        due(2, () -> oaks.cut(2));
        refused(oaks, 5, 2, () -> oaks.cut(2));
        due(-1, () -> oaks.personOf(2, 0));
        due(2, () -> oaks.personOf(3, 7));
        due(1, () -> oaks.personOf(3, 1));
        noSuch(() -> oaks.elder(3, 2, false));
        oaks.die(3);
        due(3, () -> oaks.cut(3));
        due(3, oaks::houses);
        cutKeepsMarriages();
    }

    private static void cutKeepsMarriages() {
        FamilyOaks oaks = chains(3, 1);
        oaks.marry(2, 3);
        oaks.quarrel(0, oaks.found());
        due(4, () -> oaks.cut(1));
        due(3, () -> oaks.personOf(2, 4));
        due(1, () -> oaks.account(4));
        due(1, () -> oaks.personOf(3, 8));
    }

    private static void promise6() {
        promise = 6;
        FamilyOaks oaks = tree();
        noPerson(() -> oaks.personOf(10, 0));
        noPerson(() -> oaks.personOf(-1, 0));
        noPerson(() -> oaks.personOf(10, 10));
        due(IllegalArgumentException.class, () -> oaks.personOf(9, 10));
        due(IllegalArgumentException.class, () -> oaks.personOf(9, -1));
        oaks.marry(9, 8);
        oaks.give(8, 30);
        oaks.found();
        oaks.quarrel(9, 10);
        oaks.quarrel(10, 8);
        oaks.quarrel(8, oaks.found());
        int[] of8 = {5, 3, 0, 0, 9, 30, 1, 0, 0, 2};
        int[] of1 = {0, 1, 3, 3, -1, 0, 1, 0, 0, 0};
        int[] of0 = {-1, 0, 2, 8, -1, 0, 1, 0, 0, 0};
        int[] of9 = {-1, 0, 0, 0, 8, 0, 1, 9, 0, 1};
        for (int i = 0; i < 10; i++) {
            int what = i;
            due(of8[i], () -> oaks.personOf(8, what));
            due(of1[i], () -> oaks.personOf(1, what));
            due(of0[i], () -> oaks.personOf(0, what));
            due(of9[i], () -> oaks.personOf(9, what));
        }
        oaks.die(1);
        due(0, () -> oaks.personOf(1, 6));
        due(3, () -> oaks.personOf(1, 2));
    }

    private static void promise7() {
        promise = 7;
        FamilyOaks oaks = chains(24);
        for (boolean isAgain : new boolean[] {false, true}) {
            for (int i = 0; i < 24; i++) {
                int elder = i;
                due(23 - elder, () -> oaks.elder(23, elder, isAgain));
                due(24 - elder - 1, () -> oaks.elder(24 - elder - 1, 0, isAgain));
            }
            due(0, () -> oaks.elder(16, 16, isAgain));
            noSuch(() -> oaks.elder(16, 17, isAgain));
            noSuch(() -> oaks.elder(23, 24, isAgain));
            noSuch(() -> oaks.elder(23, 32, isAgain));
            noSuch(() -> oaks.elder(23, -1, isAgain));
            noSuch(() -> oaks.elder(23, Integer.MAX_VALUE, isAgain));
            noSuch(() -> oaks.elder(23, Integer.MIN_VALUE, isAgain));
            noPerson(() -> oaks.elder(24, -1, isAgain));
            noPerson(() -> oaks.elder(-1, 0, isAgain));
        }
        oaks.cut(10);
        noSuch(() -> oaks.elder(23, 14, false));
        due(10, () -> oaks.elder(23, 13, false));
        oaks.undo();
        due(9, () -> oaks.elder(23, 14, false));
    }

    private static void promise8() {
        promise = 8;
        FamilyOaks oaks = tree();
        for (boolean isAgain : new boolean[] {false, true}) {
            due(1, () -> oaks.common(3, 4, isAgain));
            due(0, () -> oaks.common(3, 8, isAgain));
            due(5, () -> oaks.common(6, 8, isAgain));
            due(5, () -> oaks.common(5, 8, isAgain));
            due(5, () -> oaks.common(8, 5, isAgain));
            due(0, () -> oaks.common(0, 8, isAgain));
            due(7, () -> oaks.common(7, 7, isAgain));
            due(9, () -> oaks.common(9, 9, isAgain));
            noSuch(() -> oaks.common(9, 3, isAgain));
            noSuch(() -> oaks.common(0, 9, isAgain));
            noPerson(() -> oaks.common(10, 0, isAgain));
            noPerson(() -> oaks.common(0, 10, isAgain));
            noPerson(() -> oaks.common(-1, 0, isAgain));
            noPerson(() -> oaks.common(0, -1, isAgain));
        }
        oaks.cut(2);
        noSuch(() -> oaks.common(3, 8, false));
        oaks.graft(2, 3);
        due(3, () -> oaks.common(3, 8, false));
        due(1, () -> oaks.common(8, 7, false));
    }

    private static void promise9() {
        promise = 9;
        FamilyOaks oaks = tree();
        due(0, () -> oaks.degree(9, 9));
        due(0, () -> oaks.degree(6, 6));
        due(2, () -> oaks.degree(3, 4));
        due(5, () -> oaks.degree(3, 8));
        due(5, () -> oaks.degree(8, 3));
        due(3, () -> oaks.degree(0, 8));
        due(1, () -> oaks.degree(5, 6));
        noSuch(() -> oaks.degree(9, 0));
        noPerson(() -> oaks.degree(10, 0));
        noPerson(() -> oaks.degree(0, 10));
        noPerson(() -> oaks.degree(0, -1));
    }

    private static void promise10() {
        promise = 10;
        FamilyOaks oaks = chains(24);
        for (int i = 0; i < 24; i++) {
            int elder = i;
            due(Integer.bitCount(elder), () -> oaks.leaps(23, elder));
        }
        noSuch(() -> oaks.leaps(23, 24));
        noSuch(() -> oaks.leaps(5, 6));
        noSuch(() -> oaks.leaps(5, -1));
        noPerson(() -> oaks.leaps(24, 0));
        noPerson(() -> oaks.leaps(-1, 0));
    }

    private static void promise11() {
        promise = 11;
        FamilyOaks oaks = tree();
        due(9, () -> oaks.farthest(9));
        due(6, () -> oaks.farthest(3));
        due(3, () -> oaks.farthest(8));
        due(6, () -> oaks.farthest(0));
        due(3, () -> oaks.farthest(5));
        oaks.die(3);
        due(3, () -> oaks.farthest(8));
        noPerson(() -> oaks.farthest(10));
        noPerson(() -> oaks.farthest(-1));
        oaks.cut(5);
        due(6, () -> oaks.farthest(5));
    }

    private static void promise12() {
        promise = 12;
        FamilyOaks oaks = tree();
        int[] order = {1, 3, 4, 7, 2, 5, 6, 8};
        for (int i = 0; i < order.length; i++) {
            int place = i;
            due(order[place], () -> oaks.descendant(0, place));
        }
        noSuch(() -> oaks.descendant(0, 8));
        noSuch(() -> oaks.descendant(0, -1));
        noSuch(() -> oaks.descendant(9, 0));
        due(4, () -> oaks.descendant(1, 1));
        noSuch(() -> oaks.descendant(1, 3));
        noPerson(() -> oaks.descendant(10, 0));
        noPerson(() -> oaks.descendant(-1, 0));
        oaks.cut(1);
        due(2, () -> oaks.descendant(0, 0));
        oaks.graft(1, 5);
        due(1, () -> oaks.descendant(5, 0));
        due(3, () -> oaks.descendant(5, 1));
        due(6, () -> oaks.descendant(5, 4));
    }

    private static void promise13() {
        promise = 13;
        FamilyOaks oaks = chains(6, 1, 1);
        noPerson(() -> oaks.marry(0, 8));
        noPerson(() -> oaks.marry(8, 0));
        noPerson(() -> oaks.marry(-1, 0));
        noPerson(() -> oaks.marry(0, -1));
        refused(oaks, 7, 0, () -> oaks.marry(3, 3));
        refused(oaks, 7, 1, () -> oaks.marry(3, 4));
        refused(oaks, 7, 4, () -> oaks.marry(5, 1));
        due(0, () -> oaks.marry(5, 0));
        due(0, () -> oaks.personOf(5, 4));
        due(5, () -> oaks.personOf(0, 4));
        refused(oaks, 6, 5, () -> oaks.marry(0, 0));
        refused(oaks, 6, 0, () -> oaks.marry(6, 5));
        due(0, () -> oaks.marry(3, 6));
        refused(oaks, 6, 6, () -> oaks.marry(3, 5));
        refused(oaks, 6, 3, () -> oaks.marry(6, 3));
        oaks.die(4);
        oaks.die(7);
        refused(oaks, 2, 4, () -> oaks.marry(4, 7));
        refused(oaks, 2, 7, () -> oaks.marry(7, 4));
        refused(oaks, 2, 7, () -> oaks.marry(3, 7));
        refused(oaks, 2, 4, () -> oaks.marry(4, 4));
        due(2, () -> oaks.account(3));
        marriageEndsQuarrels();
    }

    private static void marriageEndsQuarrels() {
        FamilyOaks oaks = chains(2, 2, 2);
        oaks.quarrel(0, 2);
        oaks.quarrel(4, 3);
        oaks.quarrel(3, 1);
        oaks.quarrel(0, 5);
        due(2, () -> oaks.marry(1, 2));
        due(2, () -> oaks.account(5));
        due(4, () -> oaks.quarrelAt(0, false));
        due(0, () -> oaks.quarrelAt(1, false));
        due(2, () -> oaks.marry(4, 0));
        due(4, () -> oaks.account(5));
        due(0, () -> oaks.account(4));
        due(1, oaks::houses);
        due(0, () -> oaks.marry(5, 3));
    }

    private static void promise14() {
        promise = 14;
        FamilyOaks oaks = chains(1, 1, 1);
        noPerson(() -> oaks.part(3));
        noPerson(() -> oaks.part(-1));
        refused(oaks, 8, 2, () -> oaks.part(2));
        oaks.marry(0, 1);
        due(1, () -> oaks.part(0));
        refused(oaks, 8, 1, () -> oaks.part(1));
        due(3, oaks::houses);
        oaks.marry(0, 1);
        due(0, () -> oaks.part(1));
        due(-1, () -> oaks.personOf(0, 4));
        due(-1, () -> oaks.personOf(1, 4));
        oaks.marry(0, 1);
        oaks.die(0);
        refused(oaks, 8, 1, () -> oaks.part(1));
        refused(oaks, 8, 0, () -> oaks.part(0));
    }

    private static void promise15() {
        promise = 15;
        FamilyOaks oaks = chains(2, 1, 1, 2);
        noPerson(() -> oaks.quarrel(6, 0));
        noPerson(() -> oaks.quarrel(0, 6));
        noPerson(() -> oaks.quarrel(-1, 0));
        noPerson(() -> oaks.quarrel(0, -1));
        due(1, () -> oaks.quarrel(1, 2));
        due(2, () -> oaks.quarrel(3, 1));
        refused(oaks, 10, 2, () -> oaks.quarrel(1, 2));
        refused(oaks, 10, 2, () -> oaks.quarrel(2, 1));
        refused(oaks, 9, 0, () -> oaks.quarrel(1, 0));
        refused(oaks, 9, 4, () -> oaks.quarrel(5, 5));
        oaks.marry(2, 5);
        refused(oaks, 9, 2, () -> oaks.quarrel(4, 2));
        oaks.die(3);
        refused(oaks, 2, 3, () -> oaks.quarrel(3, 3));
        refused(oaks, 2, 3, () -> oaks.quarrel(3, 1));
        refused(oaks, 2, 3, () -> oaks.quarrel(1, 3));
        oaks.die(0);
        refused(oaks, 2, 0, () -> oaks.quarrel(0, 3));
        due(2, () -> oaks.account(4));
        due(1, () -> oaks.personOf(3, 9));
        quarrelsAreTwentyAtMost();
    }

    private static void quarrelsAreTwentyAtMost() {
        FamilyOaks oaks = chains(2, 1, 1, 1, 1, 1, 1, 1, 1, 1, 1, 1);
        for (int i = 0; i < 20; i++) {
            int count = i + 1;
            due(count, () -> oaks.quarrel((count - 1) % 2, 2 + (count - 1) / 2));
        }
        refused(oaks, 1, 20, () -> oaks.quarrel(0, 12));
        refused(oaks, 10, 20, () -> oaks.quarrel(0, 2));
        refused(oaks, 9, 0, () -> oaks.quarrel(0, 1));
        due(2, () -> oaks.marry(2, 0));
        due(19, () -> oaks.quarrel(0, 12));
        due(2, () -> oaks.account(5));
    }

    private static void promise16() {
        promise = 16;
        FamilyOaks oaks = chains(1, 1, 1, 1);
        noSuch(() -> oaks.quarrelAt(0, false));
        noSuch(() -> oaks.quarrelAt(0, true));
        oaks.quarrel(2, 1);
        oaks.quarrel(0, 3);
        oaks.quarrel(1, 0);
        int[] first = {2, 0, 1};
        int[] second = {1, 3, 0};
        for (int i = 0; i < 3; i++) {
            int place = i;
            due(first[place], () -> oaks.quarrelAt(place, false));
            due(second[place], () -> oaks.quarrelAt(place, true));
        }
        noSuch(() -> oaks.quarrelAt(3, false));
        noSuch(() -> oaks.quarrelAt(-1, true));
        oaks.marry(0, 3);
        due(1, () -> oaks.quarrelAt(1, false));
        noSuch(() -> oaks.quarrelAt(2, false));
    }

    private static void promise17() {
        promise = 17;
        FamilyOaks oaks = chains(6, 2, 1, 1);
        noPerson(() -> oaks.wouldEnd(10, 0));
        noPerson(() -> oaks.wouldEnd(0, 10));
        noPerson(() -> oaks.wouldEnd(-1, 0));
        oaks.quarrel(0, 6);
        oaks.quarrel(7, 3);
        oaks.quarrel(8, 3);
        oaks.quarrel(9, 6);
        due(2, () -> oaks.wouldEnd(2, 7));
        due(2, () -> oaks.wouldEnd(7, 2));
        due(1, () -> oaks.wouldEnd(9, 7));
        due(0, () -> oaks.wouldEnd(8, 9));
        due(0, () -> oaks.wouldEnd(0, 5));
        due(IllegalStateException.class, () -> oaks.wouldEnd(4, 4));
        due(IllegalStateException.class, () -> oaks.wouldEnd(0, 4));
        oaks.marry(8, 9);
        due(2, () -> oaks.wouldEnd(0, 7));
        due(IllegalStateException.class, () -> oaks.wouldEnd(8, 0));
        due(IllegalStateException.class, () -> oaks.wouldEnd(0, 9));
        oaks.die(0);
        due(IllegalStateException.class, () -> oaks.wouldEnd(0, 6));
        due(IllegalStateException.class, () -> oaks.wouldEnd(6, 0));
        noSuch(() -> oaks.refusal(false));
        due(4, () -> oaks.account(4));
        due(1, () -> oaks.account(3));
    }

    private static void promise18() {
        promise = 18;
        housesAre(false);
    }

    private static void promise19() {
        promise = 19;
        housesAre(true);
    }

    private static void housesAre(boolean isAgain) {
        FamilyOaks oaks = new FamilyOaks();
        Call houses = () -> isAgain ? oaks.housesAgain() : oaks.houses();
        due(0, houses);
        oaks.found();
        due(1, houses);
        oaks.born(0);
        due(1, houses);
        for (int i = 0; i < 4; i++) {
            oaks.found();
        }
        due(5, houses);
        oaks.marry(5, 4);
        oaks.marry(3, 2);
        due(3, houses);
        oaks.graft(5, 3);
        due(2, houses);
        oaks.found();
        oaks.marry(1, 6);
        due(2, houses);
        oaks.cut(1);
        due(3, houses);
        oaks.part(2);
        due(4, houses);
        oaks.die(1);
        due(5, houses);
        oaks.undo();
        due(4, houses);
        FamilyOaks long24 = new FamilyOaks();
        for (int i = 0; i < 24; i++) {
            long24.found();
        }
        for (int i = 23; i > 0; i--) {
            long24.graft(i - 1, i);
            int left = i;
            due(left, () -> isAgain ? long24.housesAgain() : long24.houses());
        }
    }

    private static void promise20() {
        promise = 20;
        FamilyOaks oaks = chains(1, 1);
        noPerson(() -> oaks.give(2, 0));
        noPerson(() -> oaks.give(-1, 5));
        due(IllegalArgumentException.class, () -> oaks.give(0, 0));
        due(IllegalArgumentException.class, () -> oaks.give(0, -1));
        due(IllegalArgumentException.class, () -> oaks.give(0, 1000));
        due(1, () -> oaks.give(0, 1));
        due(1000, () -> oaks.give(0, 999));
        due(0, () -> oaks.personOf(1, 5));
        due(1000, () -> oaks.account(8));
        oaks.die(1);
        due(IllegalArgumentException.class, () -> oaks.give(1, 1000));
        noSuch(() -> oaks.refusal(false));
        refused(oaks, 2, 1, () -> oaks.give(1, 1));
        due(1000, () -> oaks.account(8));
    }

    private static void promise21() {
        promise = 21;
        FamilyOaks oaks = chains(3, 2, 1);
        noPerson(() -> oaks.die(6));
        noPerson(() -> oaks.die(-1));
        oaks.marry(1, 4);
        oaks.give(1, 50);
        oaks.give(4, 5);
        due(2, () -> oaks.die(1));
        due(50, () -> oaks.personOf(2, 5));
        due(0, () -> oaks.personOf(1, 5));
        due(0, () -> oaks.personOf(1, 6));
        due(-1, () -> oaks.personOf(1, 4));
        due(-1, () -> oaks.personOf(4, 4));
        refused(oaks, 2, 1, () -> oaks.die(1));
        oaks.marry(2, 5);
        due(5, () -> oaks.die(2));
        due(50, () -> oaks.personOf(5, 5));
        due(-1, () -> oaks.personOf(5, 4));
        due(-1, () -> oaks.die(5));
        due(50, () -> oaks.account(9));
        due(3, () -> oaks.die(4));
        due(5, () -> oaks.personOf(3, 5));
        due(-1, () -> oaks.die(0));
        due(50, () -> oaks.account(9));
        due(1, () -> oaks.account(1));
        due(5, () -> oaks.account(7));
    }

    private static void promise22() {
        promise = 22;
        FamilyOaks oaks = tree();
        noPerson(() -> oaks.heir(10));
        noPerson(() -> oaks.heir(-1));
        due(-1, () -> oaks.heir(9));
        due(1, () -> oaks.heir(0));
        oaks.die(1);
        due(3, () -> oaks.heir(0));
        oaks.die(3);
        oaks.die(4);
        due(7, () -> oaks.heir(0));
        oaks.die(7);
        due(2, () -> oaks.heir(0));
        due(5, () -> oaks.heir(8));
        oaks.die(5);
        due(2, () -> oaks.heir(8));
        oaks.marry(8, 9);
        due(9, () -> oaks.heir(8));
        due(8, () -> oaks.heir(9));
        due(IllegalStateException.class, () -> oaks.heir(5));
        noSuch(() -> oaks.refusal(true));
        due(9, () -> oaks.personOf(8, 4));
        oaks.part(9);
        due(-1, () -> oaks.heir(9));
        due(6, () -> oaks.heir(2));
    }

    private static void promise23() {
        promise = 23;
        FamilyOaks oaks = chains(2, 2);
        noSuch(() -> new FamilyOaks().ranked(0));
        oaks.give(2, 7);
        oaks.give(1, 7);
        oaks.give(3, 9);
        int[] order = {3, 1, 2, 0};
        for (int i = 0; i < 4; i++) {
            int place = i;
            due(order[place], () -> oaks.ranked(place));
        }
        noSuch(() -> oaks.ranked(4));
        noSuch(() -> oaks.ranked(-1));
        oaks.die(3);
        due(2, () -> oaks.ranked(0));
        due(1, () -> oaks.ranked(1));
        due(0, () -> oaks.ranked(2));
        due(3, () -> oaks.ranked(3));
    }

    private static void promise24() {
        promise = 24;
        FamilyOaks oaks = chains(4, 9);
        noPerson(() -> oaks.line(13));
        noPerson(() -> oaks.line(-1));
        due("#0", () -> lineOf(oaks, 0));
        due("#3<2", () -> lineOf(oaks, 3));
        oaks.marry(3, 12);
        oaks.give(3, 40);
        due("#3<2+12=40", () -> lineOf(oaks, 3));
        due("#12<11+3", () -> lineOf(oaks, 12));
        due(10, () -> oaks.line(3));
        noPerson(() -> oaks.line(13));
        due('=', () -> oaks.character(7));
        oaks.die(3);
        due("#3<2x", () -> lineOf(oaks, 3));
        due("#12<11=40", () -> lineOf(oaks, 12));
        oaks.cut(3);
        due("#3x", () -> lineOf(oaks, 3));
        oaks.give(12, 999);
        due("#12<11=1039", () -> lineOf(oaks, 12));
    }

    private static void promise25() {
        promise = 25;
        FamilyOaks oaks = new FamilyOaks();
        noPerson(() -> oaks.character(0));
        oaks.found();
        noPerson(() -> oaks.character(0));
        oaks.line(0);
        due('#', () -> oaks.character(0));
        due('0', () -> oaks.character(1));
        noPerson(() -> oaks.character(2));
        noPerson(() -> oaks.character(-1));
        oaks.undo();
        due('0', () -> oaks.character(1));
        oaks.save();
        oaks.restore();
        due('#', () -> oaks.character(0));
    }

    private static void promise26() {
        promise = 26;
        FamilyOaks oaks = new FamilyOaks();
        for (int i = 1; i <= 60; i++) {
            int count = i;
            due(count, () -> oaks.append((char) (count * 999)));
        }
        due(IllegalStateException.class, () -> oaks.append('f'));
        due(60, () -> oaks.account(10));
        due(IllegalArgumentException.class, oaks::run);
        due(1, () -> oaks.append('f'));
        due(1, oaks::run);
        due(1, () -> oaks.append('f'));
        oaks.undo();
        due(1, () -> oaks.account(10));
    }

    private static void promise27() {
        promise = 27;
        FamilyOaks oaks = new FamilyOaks();
        due(5, () -> runText(oaks, "f;b0;b01;f;e3=070"));
        due(0, () -> oaks.account(10));
        due(1, () -> oaks.account(11));
        due(70, () -> oaks.personOf(3, 5));
        due(-1, oaks::errorPosition);
        due(6, () -> runText(oaks, "q0-3;m2+3;p3;c2;g2<3;d2"));
        due(1, () -> oaks.account(5));
        due(3, () -> oaks.personOf(2, 0));
        due(0, () -> oaks.personOf(2, 6));
        due(1, oaks::undo);
        due(1, () -> oaks.personOf(2, 0));
        due(0, oaks::undo);
        due(0, () -> oaks.account(0));
        due(27, () -> runText(oaks, "f;".repeat(24) + "m0+1;p0;d0"));
        due(23, () -> oaks.account(1));
        FamilyOaks full = new FamilyOaks();
        due(UnsupportedOperationException.class, () -> runText(full, "f;".repeat(29) + "f"));
        due(1, () -> full.refusal(false));
        due(24, () -> full.refusal(true));
        due(0, () -> full.account(0));
        due(0, () -> full.account(11));
        due(0, () -> full.account(10));
    }

    private static void promise27Errors() {
        Class<?> bad = IllegalArgumentException.class;
        Class<?> refusal = UnsupportedOperationException.class;
        FamilyOaks oaks = chains(2, 1);
        due(bad, () -> runText(oaks, ""));
        due(bad, () -> runText(oaks, "f;f;x"));
        due(3, () -> oaks.account(0));
        due(0, () -> oaks.account(10));
        due(bad, () -> runText(oaks, "f;b9"));
        due(bad, () -> runText(oaks, "m1+99"));
        due(bad, () -> runText(oaks, "g0<3"));
        due(bad, () -> runText(oaks, "q3-0"));
        due(bad, () -> runText(oaks, "e0=000"));
        due(bad, () -> runText(oaks, "c3;c0"));
        noSuch(() -> oaks.refusal(false));
        due(3, () -> oaks.account(0));
        due(refusal, () -> runText(oaks, "e2=9;d2;b2;b9"));
        due(2, () -> oaks.refusal(false));
        due(2, () -> oaks.refusal(true));
        due(1, () -> oaks.personOf(2, 6));
        due(0, () -> oaks.account(8));
        due(refusal, () -> runText(oaks, "m0+2;m1+2"));
        due(6, () -> oaks.refusal(false));
        due(0, () -> oaks.refusal(true));
        due(0, () -> oaks.account(3));
        due(2, oaks::houses);
        due(bad, () -> runText(oaks, "d2;e2=0"));
        due(6, () -> oaks.refusal(false));
        due(3, () -> oaks.account(11));
        due(2, () -> runText(oaks, "f;b3"));
        due(4, () -> oaks.account(11));
    }

    private static void errorAt(int position, String text) {
        FamilyOaks oaks = new FamilyOaks();
        due(IllegalArgumentException.class, () -> runText(oaks, text));
        due(position, oaks::errorPosition);
        due(0, () -> oaks.account(0));
    }

    private static void promise28() {
        promise = 28;
        due(-1, () -> new FamilyOaks().errorPosition());
        errorAt(0, "");
        errorAt(0, "x");
        errorAt(0, ";");
        errorAt(0, "F");
        errorAt(0, "" + (char) 0);
        errorAt(0, "" + (char) 0x666);
        errorAt(1, "f0");
        errorAt(2, "f;");
        errorAt(2, "f;;");
        errorAt(1, "b");
        errorAt(1, "b<");
        errorAt(3, "b123");
        errorAt(3, "b0;");
        errorAt(2, "b0<1");
        errorAt(2, "g1");
        errorAt(3, "g1<");
        errorAt(2, "g1+2");
        errorAt(3, "g1<<");
        errorAt(3, "g123<4");
        errorAt(6, "g12<34567");
        errorAt(1, "c");
        errorAt(2, "c1-");
        errorAt(2, "m1-2");
        errorAt(3, "m1+");
        errorAt(1, "p");
        errorAt(1, "p-1");
        errorAt(2, "q1+2");
        errorAt(3, "q1-x");
        errorAt(2, "e1");
        errorAt(3, "e1=");
        errorAt(6, "e1=1000");
        errorAt(5, "e1=99x");
        errorAt(2, "e1-9");
        errorAt(1, "dd");
        errorAt(1, "d" + (char) 0x661);
        errorAt(60, "f;".repeat(30));
        errorAt(59, "f;".repeat(29) + "ff");
        errorAt(60, "f;".repeat(28) + "e10=");
        afterTheLatestRun();
    }

    private static void afterTheLatestRun() {
        FamilyOaks oaks = new FamilyOaks();
        due(IllegalArgumentException.class, () -> runText(oaks, "f;x"));
        due(2, oaks::errorPosition);
        oaks.found();
        oaks.undo();
        oaks.save();
        oaks.restore();
        due(2, oaks::errorPosition);
        due(1, () -> runText(oaks, "f"));
        due(-1, oaks::errorPosition);
        due(IllegalArgumentException.class, () -> runText(oaks, "ff"));
        due(1, oaks::errorPosition);
        due(IllegalArgumentException.class, () -> runText(oaks, "c7"));
        due(-1, oaks::errorPosition);
        due(IllegalArgumentException.class, () -> runText(oaks, "ff"));
        due(UnsupportedOperationException.class, () -> runText(oaks, "c0"));
        due(-1, oaks::errorPosition);
    }

    private static void promise29() {
        promise = 29;
        FamilyOaks oaks = chains(2);
        noSuch(() -> oaks.refusal(false));
        noSuch(() -> oaks.refusal(true));
        refused(oaks, 8, 1, () -> oaks.part(1));
        refused(oaks, 5, 0, () -> oaks.cut(0));
        oaks.cut(1);
        due(5, () -> oaks.refusal(false));
        oaks.undo();
        oaks.save();
        refused(oaks, 7, 1, () -> oaks.marry(0, 1));
        oaks.restore();
        due(7, () -> oaks.refusal(false));
        due(1, () -> oaks.refusal(true));
        noPerson(() -> oaks.born(9));
        due(IllegalArgumentException.class, () -> runText(oaks, "c1;b9"));
        due(7, () -> oaks.refusal(false));
    }

    private static void promise30() {
        promise = 30;
        FamilyOaks oaks = chains(3, 2, 1);
        oaks.quarrel(0, 3);
        oaks.quarrel(5, 3);
        oaks.marry(2, 4);
        oaks.give(5, 30);
        oaks.give(0, 8);
        oaks.die(5);
        oaks.append('f');
        oaks.append('f');
        int[] accounts = {6, 5, 3, 1, 1, 1, 2, 8, 38, 30, 2, 8};
        for (int i = 0; i < accounts.length; i++) {
            int what = i;
            due(accounts[what], () -> oaks.account(what));
        }
        due(IllegalArgumentException.class, () -> oaks.account(-1));
        due(IllegalArgumentException.class, () -> oaks.account(12));
        oaks.undo();
        due(0, () -> oaks.account(9));
        due(7, () -> oaks.account(11));
        oaks.undo();
        due(30, () -> oaks.account(8));
        oaks.undo();
        oaks.undo();
        due(0, () -> oaks.account(3));
        due(0, () -> oaks.account(5));
        due(2, () -> oaks.account(4));
    }

    private static void promise31() {
        promise = 31;
        due(true, () -> new FamilyOaks().isWell());
        FamilyOaks oaks = chains(12, 6, 6);
        due(true, oaks::isWell);
        oaks.quarrel(0, 12);
        oaks.quarrel(18, 12);
        oaks.graft(12, 3);
        due(true, oaks::isWell);
        oaks.marry(20, 17);
        due(true, oaks::isWell);
        oaks.give(4, 100);
        oaks.die(4);
        due(true, oaks::isWell);
        oaks.undo();
        due(true, oaks::isWell);
        oaks.save();
        oaks.cut(6);
        due(true, oaks::isWell);
        oaks.restore();
        due(true, oaks::isWell);
        due(UnsupportedOperationException.class, () -> runText(oaks, "c3;g3<20;e0=9;d0;d0"));
        due(true, oaks::isWell);
    }

    private static void promise32() {
        promise = 32;
        due(ArithmeticException.class, () -> new FamilyOaks().meanDepth());
        FamilyOaks oaks = chains(3);
        due(1.0, oaks::meanDepth);
        oaks.born(2);
        due(1.5, oaks::meanDepth);
        oaks.born(0);
        oaks.found();
        due(7.0 / 6.0, oaks::meanDepth);
        due(0.0, () -> chains(1, 1).meanDepth());
    }

    private static void promise33() {
        promise = 33;
        due(ArithmeticException.class, () -> new FamilyOaks().livingShare());
        FamilyOaks oaks = chains(3);
        due(1.0f, oaks::livingShare);
        oaks.die(1);
        due(2.0f / 3.0f, oaks::livingShare);
        oaks.die(0);
        oaks.die(2);
        due(0.0f, oaks::livingShare);
    }

    private static void promise34() {
        promise = 34;
        FamilyOaks oaks = new FamilyOaks();
        due(IllegalStateException.class, oaks::undo);
        for (int i = 0; i < 10; i++) {
            oaks.found();
        }
        for (int i = 7; i >= 0; i--) {
            int left = i;
            due(left, oaks::undo);
            due(2 + left, () -> oaks.account(0));
        }
        due(IllegalStateException.class, oaks::undo);
        due(2, () -> oaks.account(0));
        refused(oaks, 5, 0, () -> oaks.cut(0));
        due(IllegalStateException.class, oaks::undo);
        undoOfEachChange();
    }

    private static void undoOfEachChange() {
        FamilyOaks oaks = chains(2, 2);
        oaks.quarrel(0, 2);
        oaks.quarrel(1, 3);
        oaks.graft(0, 3);
        due(7 - 1, oaks::undo);
        due(2, () -> oaks.account(4));
        due(0, () -> oaks.account(5));
        due(1, () -> oaks.quarrelAt(1, false));
        oaks.marry(0, 2);
        due(6, oaks::undo);
        due(-1, () -> oaks.personOf(0, 4));
        due(2, () -> oaks.account(4));
        oaks.marry(0, 2);
        oaks.part(0);
        due(7, oaks::undo);
        due(2, () -> oaks.personOf(0, 4));
        oaks.give(0, 5);
        oaks.die(0);
        due(7, oaks::undo);
        due(5, () -> oaks.personOf(0, 5));
        due(2, () -> oaks.personOf(0, 4));
        due(0, () -> oaks.personOf(1, 5));
        due(1, () -> oaks.personOf(0, 6));
        due(6, oaks::undo);
        due(0, () -> oaks.account(8));
        oaks.cut(1);
        due(6, oaks::undo);
        due(0, () -> oaks.personOf(1, 0));
    }

    private static void promise35() {
        promise = 35;
        FamilyOaks oaks = new FamilyOaks();
        due(0, oaks::save);
        oaks.found();
        oaks.born(0);
        due(2, () -> oaks.account(11));
        due(2, oaks::save);
        due(2, () -> oaks.account(11));
        oaks.cut(1);
        due(2, oaks::restore);
        due(0, () -> oaks.personOf(1, 0));
    }

    private static void promise36() {
        promise = 36;
        FamilyOaks oaks = new FamilyOaks();
        due(IllegalStateException.class, oaks::restore);
        oaks.save();
        runText(oaks, "f;f;f;b0;q3-1;e1=5;m0+2");
        due(4, oaks::save);
        runText(oaks, "m1+3;d1;c3;e3=1");
        due(1, () -> oaks.account(5));
        oaks.append('f');
        due(4, oaks::restore);
        due(0, () -> oaks.account(11));
        due(1, () -> oaks.account(10));
        due(IllegalStateException.class, oaks::undo);
        due(0, () -> oaks.account(5));
        due(1, () -> oaks.account(4));
        due(5, () -> oaks.account(7));
        due(5, () -> oaks.account(8));
        due(1, () -> oaks.personOf(1, 6));
        due(0, () -> oaks.personOf(3, 0));
        due(2, () -> oaks.personOf(0, 4));
        due(2, oaks::houses);
        oaks.die(0);
        due(4, oaks::restore);
        due(1, () -> oaks.personOf(0, 6));
        oaks.found();
        oaks.undo();
        due(4, oaks::restore);
    }
}
