import java.util.ArrayDeque;
import java.util.ArrayList;
import java.util.Deque;
import java.util.List;
import java.util.NoSuchElementException;
import java.util.Random;
import java.util.TreeSet;
import java.util.regex.Matcher;
import java.util.regex.Pattern;

/**
 * Long runs of mixed calls, each answered by FamilyOaks and by a slow model that was written from the document
 * alone, with the library's lists and patterns. The seeds are fixed, so that every run is the same.
 */
public final class ModelTests {
    private static final int RUNS = 6000;
    private static final int CALLS = 512;

    public static void main(String[] args) {
        for (int seed = 0; seed < RUNS; seed++) {
            String fault = new Run(seed).fault();
            if (fault != null) {
                System.out.println("seed " + seed + ": " + fault);
                System.exit(1);
            }
        }
        System.out.println("all answers are as the model's");
    }

    private interface Call {
        Object answer();
    }

    private static Object answerOf(Call call) {
        try {
            return call.answer();
        } catch (RuntimeException e) {
            return e.getClass().getSimpleName();
        }
    }

    /** One object and one model, and what both are asked. */
    private static final class Run {
        private final Random random;
        private final FamilyOaks oaks = new FamilyOaks();
        private final Model model = new Model();
        private final StringBuilder told = new StringBuilder();
        private final boolean isBusy;
        private final int deathsAreOneIn;
        private String toAppend = "";
        private boolean isTextReady = false;

        Run(int seed) {
            random = new Random(seed);
            isBusy = seed % 3 != 0;
            deathsAreOneIn = seed % 2 == 0 ? 1 : 12;
        }

        String fault() {
            for (int i = 0; i < CALLS; i++) {
                String fault = toAppend.isEmpty() ? oneCall() : appendNext();
                if (fault != null) {
                    return told + fault;
                }
            }
            return null;
        }

        private String appendNext() {
            char c = toAppend.charAt(0);
            toAppend = toAppend.substring(1);
            return same("append '" + c + "'", () -> oaks.append(c), () -> model.append(c));
        }

        private String same(String name, Call got, Call want) {
            Object answer = answerOf(got);
            Object due = answerOf(want);
            told.append(name).append(" -> ").append(answer).append('\n');
            return due.equals(answer) ? null : "due is " + due;
        }

        private int person() {
            int most = Math.max(model.now.people.size(), 1);
            if (random.nextInt(6) == 0) {
                return most - 1;
            }
            return random.nextInt(25) == 0 ? random.nextInt(30) - 3 : random.nextInt(most);
        }

        /** Most of the time the elder is one that the person has. */
        private int elderOf(int person) {
            boolean isThere = person >= 0 && person < model.now.people.size();
            int depth = isThere ? model.now.chain(person).size() - 1 : 0;
            return random.nextInt(depth + 3) - 1;
        }

        private String oneCall() {
            int of = random.nextInt(isBusy ? 130 : 60);
            if (of < 30) {
                return oneChange(of);
            }
            return of < 36 || isTextReady && random.nextInt(3) > 0 ? oneText(of) : oneQuestion(of % 26);
        }

        private String oneChange(int of) {
            int a = person();
            int b = person();
            int coins = random.nextInt(8) == 0 ? random.nextInt(3) * 500 : 1 + random.nextInt(20);
            switch (of) {
                case 0: case 1: case 2:
                    return same("found", oaks::found, model::found);
                case 3: case 4: case 5: case 6: case 7:
                    return same("born " + a, () -> oaks.born(a), () -> model.born(a));
                case 8: case 9: case 10:
                    return same("graft " + a + " " + b, () -> oaks.graft(a, b), () -> model.graft(a, b));
                case 11: case 12:
                    return same("cut " + a, () -> oaks.cut(a), () -> model.cut(a));
                case 13: case 14: case 15: case 16: case 17:
                    return same("marry " + a + " " + b, () -> oaks.marry(a, b), () -> model.marry(a, b));
                case 18:
                    return same("part " + a, () -> oaks.part(a), () -> model.part(a));
                case 19: case 20: case 21: case 22:
                    return same("quarrel " + a + " " + b, () -> oaks.quarrel(a, b), () -> model.quarrel(a, b));
                case 23: case 24:
                    return same("give " + a + " " + coins, () -> oaks.give(a, coins), () -> model.give(a, coins));
                case 25: case 26:
                    return random.nextInt(deathsAreOneIn) > 0 ? null
                        : same("die " + a, () -> oaks.die(a), () -> model.die(a));
                case 27:
                    return same("undo", oaks::undo, model::undo);
                case 28:
                    return same("save", oaks::save, model::save);
                default:
                    return random.nextInt(4) == 0
                        ? same("restore", oaks::restore, model::restore)
                        : same("undo", oaks::undo, model::undo);
            }
        }

        private String oneText(int of) {
            if (of > 30 && !isTextReady) {
                toAppend = text();
                isTextReady = true;
                return null;
            }
            isTextReady = false;
            return same("run", oaks::run, model::run);
        }

        private String text() {
            StringBuilder text = new StringBuilder();
            int orders = random.nextInt(9) == 0 ? 30 : 1 + random.nextInt(5);
            for (int i = 0; i < orders; i++) {
                text.append(i == 0 ? "" : ";").append(orders == 30 ? "f" : order());
            }
            if (random.nextInt(3) == 0) {
                String signs = "fbgcmpqed<+-=;0123456789 F/:";
                int at = random.nextInt(text.length());
                text.setCharAt(at, signs.charAt(random.nextInt(signs.length())));
            }
            if (random.nextInt(12) == 0) {
                text.setLength(random.nextInt(text.length() + 1));
            }
            return text.toString();
        }

        private String order() {
            String a = "" + Math.abs(person());
            String b = (random.nextInt(4) == 0 ? "0" : "") + Math.abs(person()) % 10;
            String[] orders = {
                "f", "b" + a, "b" + b, "g" + a + "<" + b, "c" + a, "m" + a + "+" + b, "m" + b + "+" + a,
                "p" + a, "q" + a + "-" + b, "q" + b + "-" + a, "e" + a + "=" + random.nextInt(1000), "d" + a,
                "e" + b + "=00" + random.nextInt(5)};
            return orders[random.nextInt(orders.length)];
        }

        private String oneQuestion(int of) {
            int a = person();
            int b = person();
            int what = random.nextInt(14) - 1;
            int place = random.nextInt(26) - 1;
            int elder = elderOf(a);
            boolean is = random.nextBoolean();
            String two = " " + a + " " + b;
            switch (of) {
                case 0: case 1: case 2: case 3:
                    return same("personOf " + a + " " + what,
                        () -> oaks.personOf(a, what), () -> model.personOf(a, what));
                case 4:
                    return same("elder " + a + " " + elder,
                        () -> oaks.elder(a, elder, is), () -> model.elder(a, elder));
                case 5: case 6:
                    return same("common" + two, () -> oaks.common(a, b, is), () -> model.common(a, b));
                case 7:
                    return same("degree" + two, () -> oaks.degree(a, b), () -> model.degree(a, b));
                case 8:
                    return same("leaps " + a + " " + elder, () -> oaks.leaps(a, elder), () -> model.leaps(a, elder));
                case 9:
                    return same("farthest " + a, () -> oaks.farthest(a), () -> model.farthest(a));
                case 10:
                    return same("descendant " + a + " " + place / 3,
                        () -> oaks.descendant(a, place / 3), () -> model.descendant(a, place / 3));
                case 11:
                    return same("quarrelAt " + place / 4,
                        () -> oaks.quarrelAt(place / 4, is), () -> model.quarrelAt(place / 4, is));
                case 12: case 13:
                    return same("wouldEnd" + two, () -> oaks.wouldEnd(a, b), () -> model.wouldEnd(a, b));
                case 14:
                    return same("houses", () -> is ? oaks.houses() : oaks.housesAgain(), () -> model.now.houses());
                case 15:
                    return same("heir " + a, () -> oaks.heir(a), () -> model.heir(a));
                case 16:
                    return same("ranked " + place, () -> oaks.ranked(place), () -> model.ranked(place));
                case 17: case 18:
                    return same("line " + a, () -> oaks.line(a), () -> model.line(a));
                case 19:
                    return same("character " + place, () -> oaks.character(place), () -> model.character(place));
                case 20:
                    return same("errorPosition", oaks::errorPosition, () -> model.errorAt);
                case 21:
                    return same("refusal", () -> oaks.refusal(is), () -> model.refusal(is));
                case 22: case 23:
                    return same("account " + what, () -> oaks.account(what), () -> model.account(what));
                case 24:
                    return same("isWell", oaks::isWell, () -> true);
                default:
                    return is ? same("meanDepth", oaks::meanDepth, model::meanDepth)
                        : same("livingShare", oaks::livingShare, model::livingShare);
            }
        }
    }

    private static final class Person {
        Integer parent;
        Integer spouse;
        int coins;
        boolean isDead;

        Person copy() {
            Person copy = new Person();
            copy.parent = parent;
            copy.spouse = spouse;
            copy.coins = coins;
            copy.isDead = isDead;
            return copy;
        }
    }

    private static final class State {
        final List<Person> people = new ArrayList<>();
        final List<int[]> quarrels = new ArrayList<>();
        int ended;
        int given;
        int lost;

        State copy() {
            State copy = new State();
            people.forEach(person -> copy.people.add(person.copy()));
            copy.quarrels.addAll(quarrels);
            copy.ended = ended;
            copy.given = given;
            copy.lost = lost;
            return copy;
        }

        /** The person and all its elders, upwards. */
        List<Integer> chain(int person) {
            List<Integer> chain = new ArrayList<>();
            for (Integer at = person; at != null; at = people.get(at).parent) {
                chain.add(at);
            }
            return chain;
        }

        int root(int person) {
            List<Integer> chain = chain(person);
            return chain.get(chain.size() - 1);
        }

        List<Integer> children(int person) {
            List<Integer> children = new ArrayList<>();
            for (int i = 0; i < people.size(); i++) {
                if (people.get(i).parent != null && people.get(i).parent == person) {
                    children.add(i);
                }
            }
            return children;
        }

        List<Integer> descendants(int person) {
            List<Integer> all = new ArrayList<>();
            for (int child : children(person)) {
                all.add(child);
                all.addAll(descendants(child));
            }
            return all;
        }

        TreeSet<Integer> household(int person) {
            TreeSet<Integer> found = new TreeSet<>();
            Deque<Integer> open = new ArrayDeque<>(List.of(person));
            while (!open.isEmpty()) {
                int at = open.pop();
                if (found.add(at)) {
                    open.addAll(children(at));
                    if (people.get(at).parent != null) {
                        open.add(people.get(at).parent);
                    }
                    if (people.get(at).spouse != null) {
                        open.add(people.get(at).spouse);
                    }
                }
            }
            return found;
        }

        int house(int person) {
            return household(person).first();
        }

        int houses() {
            TreeSet<Integer> all = new TreeSet<>();
            for (int i = 0; i < people.size(); i++) {
                all.add(house(i));
            }
            return all.size();
        }

        int common(int person, int other) {
            List<Integer> elders = chain(other);
            for (int at : chain(person)) {
                if (elders.contains(at)) {
                    return at;
                }
            }
            throw new NoSuchElementException();
        }

        int degree(int person, int other) {
            int common = common(person, other);
            return chain(person).indexOf(common) + chain(other).indexOf(common);
        }

        int heir(int person) {
            for (int below : descendants(person)) {
                if (!people.get(below).isDead) {
                    return below;
                }
            }
            if (people.get(person).spouse != null) {
                return people.get(person).spouse;
            }
            for (int above : chain(person)) {
                if (above != person && !people.get(above).isDead) {
                    return above;
                }
            }
            return -1;
        }

        int endQuarrels() {
            int count = quarrels.size();
            quarrels.removeIf(quarrel -> house(quarrel[0]) == house(quarrel[1]));
            ended += count - quarrels.size();
            return count - quarrels.size();
        }

        void unmarry(int person) {
            Integer spouse = people.get(person).spouse;
            people.get(person).spouse = null;
            if (spouse != null) {
                people.get(spouse).spouse = null;
            }
        }
    }

    private static final class Model {
        private static final String ORDER =
            "(f|[bcpd]P|gP<P|mP\\+P|qP-P|eP=\\d{1,3})".replace("P", "\\d\\d?");
        private static final Pattern TEXT = Pattern.compile(ORDER + "(;" + ORDER + ")*");
        State now = new State();
        State saved;
        final List<State> past = new ArrayList<>();
        String input = "";
        String line = "";
        int errorAt = -1;
        int[] reason;
        private boolean isInText;

        private interface Change {
            int done(State state);
        }

        private int change(Change change) {
            State next = now.copy();
            int answer = change.done(next);
            if (!isInText) {
                remember(now);
            }
            now = next;
            return answer;
        }

        private void remember(State state) {
            past.add(state);
            if (past.size() > 8) {
                past.remove(0);
            }
        }

        private void refuseIf(boolean isSo, int why, int detail) {
            if (isSo) {
                reason = new int[] {why, detail};
                throw new UnsupportedOperationException();
            }
        }

        private Person at(int person) {
            if (person < 0 || person >= now.people.size()) {
                throw new IndexOutOfBoundsException();
            }
            return now.people.get(person);
        }

        private static int orNone(Integer number) {
            return number == null ? -1 : number;
        }

        private int add(Integer parent) {
            refuseIf(now.people.size() == 24, 1, 24);
            return change(state -> {
                Person child = new Person();
                child.parent = parent;
                state.people.add(child);
                return state.people.size() - 1;
            });
        }

        int found() {
            return add(null);
        }

        int born(int parent) {
            refuseIf(at(parent).isDead, 2, parent);
            return add(parent);
        }

        private static int oaks(State state) {
            return (int) state.people.stream().filter(person -> person.parent == null).count();
        }

        int graft(int root, int person) {
            Integer parent = at(root).parent;
            at(person);
            refuseIf(parent != null, 3, orNone(parent));
            refuseIf(now.root(person) == root, 4, root);
            return change(state -> {
                state.people.get(root).parent = person;
                state.endQuarrels();
                return oaks(state);
            });
        }

        int cut(int person) {
            refuseIf(at(person).parent == null, 5, person);
            return change(state -> {
                state.people.get(person).parent = null;
                return oaks(state);
            });
        }

        int personOf(int person, int what) {
            Person asked = at(person);
            int[] numbers = {
                orNone(asked.parent), now.chain(person).size() - 1, now.children(person).size(),
                now.descendants(person).size(), orNone(asked.spouse), asked.coins, asked.isDead ? 0 : 1,
                now.root(person), now.house(person),
                (int) now.quarrels.stream().filter(q -> q[0] == person || q[1] == person).count()};
            if (what < 0 || what > 9) {
                throw new IllegalArgumentException();
            }
            return numbers[what];
        }

        int elder(int person, int elder) {
            at(person);
            if (elder < 0 || elder >= now.chain(person).size()) {
                throw new NoSuchElementException();
            }
            return now.chain(person).get(elder);
        }

        int common(int person, int other) {
            at(person);
            at(other);
            return now.common(person, other);
        }

        int degree(int person, int other) {
            common(person, other);
            return now.degree(person, other);
        }

        int leaps(int person, int elder) {
            elder(person, elder);
            return Integer.bitCount(elder);
        }

        int farthest(int person) {
            at(person);
            int best = -1;
            for (int i = 0; i < now.people.size(); i++) {
                boolean isOfOak = now.root(i) == now.root(person);
                if (isOfOak && (best == -1 || now.degree(person, i) > now.degree(person, best))) {
                    best = i;
                }
            }
            return best;
        }

        int descendant(int person, int place) {
            at(person);
            return placed(now.descendants(person), place);
        }

        private static <T> T placed(List<T> list, int place) {
            if (place < 0 || place >= list.size()) {
                throw new NoSuchElementException();
            }
            return list.get(place);
        }

        int marry(int person, int other) {
            Person one = at(person);
            Person two = at(other);
            refuseIf(one.isDead, 2, person);
            refuseIf(two.isDead, 2, other);
            refuseIf(one.spouse != null, 6, orNone(one.spouse));
            refuseIf(two.spouse != null, 6, orNone(two.spouse));
            if (now.root(person) == now.root(other)) {
                int degree = now.degree(person, other);
                refuseIf(degree <= 4, 7, degree);
            }
            return change(state -> {
                state.people.get(person).spouse = other;
                state.people.get(other).spouse = person;
                return state.endQuarrels();
            });
        }

        int part(int person) {
            refuseIf(at(person).spouse == null, 8, person);
            return change(state -> {
                int other = state.people.get(person).spouse;
                state.unmarry(person);
                return other;
            });
        }

        int quarrel(int person, int other) {
            Person one = at(person);
            Person two = at(other);
            refuseIf(one.isDead, 2, person);
            refuseIf(two.isDead, 2, other);
            refuseIf(now.household(person).contains(other), 9, now.house(other));
            for (int[] quarrel : now.quarrels) {
                boolean isSame = List.of(person, other).containsAll(List.of(quarrel[0], quarrel[1]));
                refuseIf(isSame, 10, now.quarrels.size());
            }
            refuseIf(now.quarrels.size() == 20, 1, 20);
            return change(state -> {
                state.quarrels.add(new int[] {person, other});
                return state.quarrels.size();
            });
        }

        int quarrelAt(int place, boolean isOther) {
            return placed(now.quarrels, place)[isOther ? 1 : 0];
        }

        /** The model marries them, and takes it all back. */
        int wouldEnd(int person, int other) {
            int[] reasonBefore = reason;
            State stateBefore = now;
            isInText = true;
            try {
                return marry(person, other);
            } catch (UnsupportedOperationException e) {
                throw new IllegalStateException();
            } finally {
                isInText = false;
                now = stateBefore;
                reason = reasonBefore;
            }
        }

        int give(int person, int coins) {
            Person to = at(person);
            if (coins <= 0 || coins >= 1000) {
                throw new IllegalArgumentException();
            }
            refuseIf(to.isDead, 2, person);
            return change(state -> {
                state.given += coins;
                return state.people.get(person).coins += coins;
            });
        }

        int die(int person) {
            refuseIf(at(person).isDead, 2, person);
            return change(state -> {
                int heir = state.heir(person);
                Person dying = state.people.get(person);
                if (heir < 0) {
                    state.lost += dying.coins;
                } else {
                    state.people.get(heir).coins += dying.coins;
                }
                dying.coins = 0;
                dying.isDead = true;
                state.unmarry(person);
                return heir;
            });
        }

        int heir(int person) {
            if (at(person).isDead) {
                throw new IllegalStateException();
            }
            return now.heir(person);
        }

        int ranked(int place) {
            List<Integer> order = new ArrayList<>();
            for (int i = 0; i < now.people.size(); i++) {
                order.add(i);
            }
            order.sort((a, b) -> now.people.get(b).coins - now.people.get(a).coins);
            return placed(order, place);
        }

        int line(int person) {
            Person told = at(person);
            line = "#" + person + (told.parent == null ? "" : "<" + told.parent)
                + (told.spouse == null ? "" : "+" + told.spouse) + (told.coins == 0 ? "" : "=" + told.coins)
                + (told.isDead ? "x" : "");
            return line.length();
        }

        char character(int index) {
            if (index < 0 || index >= line.length()) {
                throw new IndexOutOfBoundsException();
            }
            return line.charAt(index);
        }

        int append(char c) {
            if (input.length() == 60) {
                throw new IllegalStateException();
            }
            input += c;
            return input.length();
        }

        private static int errorPositionOf(String text) {
            if (TEXT.matcher(text).matches()) {
                return -1;
            }
            for (int i = 1; i <= text.length(); i++) {
                Matcher matcher = TEXT.matcher(text.substring(0, i));
                if (!matcher.matches() && !matcher.hitEnd()) {
                    return i - 1;
                }
            }
            return text.length();
        }

        int run() {
            String text = input;
            input = "";
            errorAt = errorPositionOf(text);
            if (errorAt != -1) {
                throw new IllegalArgumentException();
            }
            State before = now;
            isInText = true;
            try {
                for (String order : text.split(";")) {
                    carryOut(order);
                }
            } catch (UnsupportedOperationException e) {
                now = before;
                throw e;
            } catch (IndexOutOfBoundsException | IllegalArgumentException e) {
                now = before;
                throw new IllegalArgumentException();
            } finally {
                isInText = false;
            }
            remember(before);
            return text.split(";").length;
        }

        private void carryOut(String order) {
            String[] numbers = order.substring(1).split("[<+=-]");
            int a = order.length() == 1 ? 0 : Integer.parseInt(numbers[0]);
            int b = numbers.length < 2 ? 0 : Integer.parseInt(numbers[1]);
            switch (order.charAt(0)) {
                case 'f': found(); break;
                case 'b': born(a); break;
                case 'g': graft(a, b); break;
                case 'c': cut(a); break;
                case 'm': marry(a, b); break;
                case 'p': part(a); break;
                case 'q': quarrel(a, b); break;
                case 'e': give(a, b); break;
                default: die(a);
            }
        }

        int refusal(boolean isDetail) {
            if (reason == null) {
                throw new NoSuchElementException();
            }
            return reason[isDetail ? 1 : 0];
        }

        int account(int what) {
            List<Person> people = now.people;
            int deepest = 0;
            for (int i = 0; i < people.size(); i++) {
                deepest = Math.max(deepest, now.chain(i).size() - 1);
            }
            int[] accounts = {
                people.size(), (int) people.stream().filter(person -> !person.isDead).count(), oaks(now),
                (int) people.stream().filter(person -> person.spouse != null).count() / 2, now.quarrels.size(),
                now.ended, deepest, people.stream().mapToInt(person -> person.coins).sum(), now.given, now.lost,
                input.length(), past.size()};
            if (what < 0 || what > 11) {
                throw new IllegalArgumentException();
            }
            return accounts[what];
        }

        private void needPeople() {
            if (now.people.isEmpty()) {
                throw new ArithmeticException();
            }
        }

        double meanDepth() {
            needPeople();
            double sum = 0;
            for (int i = 0; i < now.people.size(); i++) {
                sum += now.chain(i).size() - 1;
            }
            return sum / now.people.size();
        }

        float livingShare() {
            needPeople();
            return (float) account(1) / (float) account(0);
        }

        int undo() {
            if (past.isEmpty()) {
                throw new IllegalStateException();
            }
            now = past.remove(past.size() - 1);
            return past.size();
        }

        int save() {
            saved = now;
            return now.people.size();
        }

        int restore() {
            if (saved == null) {
                throw new IllegalStateException();
            }
            now = saved;
            past.clear();
            return now.people.size();
        }
    }
}
