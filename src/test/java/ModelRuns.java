import java.util.ArrayList;
import java.util.Comparator;
import java.util.List;
import java.util.regex.Matcher;
import java.util.regex.Pattern;

/** Long runs of calls, with a fixed seed, answered by CoilSlits and by a plain model of the document. */
public final class ModelRuns {
    private static final int RUNS = 400;
    private static final int CALLS = 512;

    private static long seed = 20261118L;
    // Of one grade more coils suit; where little goes, stacks fill up and coils cannot be dug out.
    private static int grades;
    private static boolean crowded;

    public static void main(String[] args) {
        int wrongRuns = 0;
        for (int run = 0; run < RUNS && wrongRuns < 3; run++) {
            wrongRuns += runIsRight(run) ? 0 : 1;
        }
        System.out.println((wrongRuns == 0 ? "PASS " : "FAIL ") + "runs against the model");
        if (wrongRuns != 0) {
            System.exit(1);
        }
    }

    private static int below(int bound) {
        seed = seed * 6364136223846793005L + 1442695040888963407L;
        return (int) ((seed >>> 33) % bound);
    }

    private static boolean runIsRight(int run) {
        CoilSlits program = new CoilSlits();
        Model model = new Model();
        StringBuilder told = new StringBuilder();
        grades = 1 + run % 2;
        crowded = run % 4 >= 2;
        for (int i = 0; i < CALLS; i++) {
            int kind = someKind();
            int[] a = arguments(kind, model);
            String got = answer(program, null, kind, a);
            String due = answer(null, model, kind, a);
            told.append(kind).append(java.util.Arrays.toString(a)).append(" -> ").append(got).append('\n');
            if (!got.equals(due)) {
                System.out.println("run " + run + ", call " + i + ": answered " + got + ", due is " + due);
                String[] lines = told.toString().split("\n");
                for (int k = Math.max(0, lines.length - 25); k < lines.length; k++) {
                    System.out.println("  " + lines[k]);
                }
                return false;
            }
        }
        return true;
    }

    private static int someKind() {
        int kind = below(100);
        boolean empties = "sendAway slit serve serveAll undo".contains(kindOf(kind));
        return crowded && empties && below(3) != 0 ? below(100) : kind;
    }

    /** Mostly arguments in their ranges, and every now and then one beside them. */
    private static int within(int least, int most) {
        if (below(40) == 0) {
            int[] beside = {least - 1, most + 1, -1, Integer.MIN_VALUE, Integer.MAX_VALUE};
            return beside[below(beside.length)];
        }
        return least + below(most - least + 1);
    }

    private static int someCoil(Model model) {
        List<Coil> coils = model.state.coils();
        return coils.isEmpty() || below(30) == 0 ? within(0, model.state.nextCoil)
                : coils.get(below(coils.size())).number;
    }

    private static int someOrder(Model model) {
        List<Order> orders = model.state.orders;
        return orders.isEmpty() || below(30) == 0 ? within(0, model.state.nextOrder)
                : orders.get(below(orders.size())).number;
    }

    private static int[] arguments(int kind, Model model) {
        switch (kindOf(kind)) {
            case "receive": return new int[] {within(1, 200), below(grades), within(0, 9), within(0, 5)};
            case "move": return new int[] {within(0, 5), within(0, 5)};
            case "dig": case "sendAway": return new int[] {someCoil(model)};
            case "order": return new int[] {below(grades), below(2) == 0 ? within(0, 3) : within(0, 9),
                    below(4) == 0 ? within(2, 100) : within(10, 50),
                    below(3) == 0 ? within(1, 40) : within(1, 8), below(3) == 0 ? within(1, 99) : 7};
            case "cancel": case "serve": case "choice": return new int[] {someOrder(model)};
            case "slit": case "whyNot": return new int[] {someOrder(model), someCoil(model)};
            case "set": return below(2) == 0 ? new int[] {3, within(0, 2)}
                    : new int[] {within(0, 3), below(3) == 0 ? within(0, 100) : within(0, 5)};
            case "append": return new int[] {letter(model)};
            case "at": return new int[] {within(0, 5), within(0, 4)};
            case "coil": return new int[] {someCoil(model), within(0, 5)};
            case "orderOf": return new int[] {within(0, 8), within(0, 7)};
            case "count": return new int[] {within(0, 13)};
            case "setting": return new int[] {within(0, 3)};
            case "ifServed": return new int[] {someOrder(model), within(0, 2), within(0, 3)};
            default: return new int[0];
        }
    }

    /** Mostly a character that goes on with coils as a text. */
    private static int letter(Model model) {
        if (below(60) == 0) {
            return within(33, 126);
        }
        String all = "0123456789gqs;";
        for (int i = 0; i < 20; i++) {
            char letter = all.charAt(below(all.length()));
            String next = model.buffer + letter;
            if (Model.isBeginning(next)) {
                return letter;
            }
        }
        return ';';
    }

    private static String kindOf(int kind) {
        String[] names = {"receive", "move", "dig", "sendAway", "order", "cancel", "slit", "serve", "serveAll",
            "set", "append", "clearBuffer", "firstError", "receiveAll", "undo", "at", "coil", "orderOf", "whyNot",
            "count", "setting", "choice", "ifServed", "bestRule", "bestStack", "used", "digest"};
        int[] weights = {12, 3, 3, 2, 7, 1, 6, 3, 1, 4, 21, 1, 2, 3, 4, 2, 3, 3, 3, 3, 1, 3, 3, 2, 1, 1, 2};
        int left = kind;
        for (int i = 0; i < names.length; i++) {
            left -= weights[i];
            if (left < 0) {
                return names[i];
            }
        }
        return "digest";
    }

    private static String answer(CoilSlits x, Model m, int kind, int[] a) {
        try {
            return kindOf(kind) + " " + (x != null ? ofProgram(x, kindOf(kind), a) : ofModel(m, kindOf(kind), a));
        } catch (IndexOutOfBoundsException | IllegalArgumentException | IllegalStateException e) {
            return kindOf(kind) + " throws " + e.getClass().getName();
        }
    }

    private static long ofProgram(CoilSlits x, String name, int[] a) {
        switch (name) {
            case "receive": return x.receive(a[0], a[1], a[2], a[3]);
            case "move": return x.move(a[0], a[1]);
            case "dig": return x.dig(a[0]);
            case "sendAway": return x.sendAway(a[0]);
            case "order": return x.order(a[0], a[1], a[2], a[3], a[4]);
            case "cancel": return x.cancel(a[0]);
            case "slit": return x.slit(a[0], a[1]);
            case "serve": return x.serve(a[0]);
            case "serveAll": return x.serveAll();
            case "set": return x.set(a[0], a[1]);
            case "append": return x.append(a[0]);
            case "clearBuffer": return x.clearBuffer();
            case "firstError": return x.firstError();
            case "receiveAll": return x.receiveAll();
            case "undo": return x.undo();
            case "at": return x.at(a[0], a[1]);
            case "coil": return x.coil(a[0], a[1]);
            case "orderOf": return x.orderOf(a[0], a[1]);
            case "whyNot": return x.whyNot(a[0], a[1]);
            case "count": return x.count(a[0]);
            case "setting": return x.setting(a[0]);
            case "choice": return x.choice(a[0]);
            case "ifServed": return x.ifServed(a[0], a[1], a[2]);
            case "bestRule": return x.bestRule();
            case "bestStack": return x.bestStack();
            case "used": return Double.doubleToLongBits(x.used());
            default: return x.digest();
        }
    }

    private static long ofModel(Model m, String name, int[] a) {
        switch (name) {
            case "receive": return m.receive(a[0], a[1], a[2], a[3]);
            case "move": return m.move(a[0], a[1]);
            case "dig": return m.dig(a[0]);
            case "sendAway": return m.sendAway(a[0]);
            case "order": return m.order(a[0], a[1], a[2], a[3], a[4]);
            case "cancel": return m.cancel(a[0]);
            case "slit": return m.slit(a[0], a[1]);
            case "serve": return m.serve(a[0]);
            case "serveAll": return m.serveAll();
            case "set": return m.set(a[0], a[1]);
            case "append": return m.append(a[0]);
            case "clearBuffer": return m.clearBuffer();
            case "firstError": return m.firstError();
            case "receiveAll": return m.receiveAll();
            case "undo": return m.undo();
            case "at": return m.at(a[0], a[1]);
            case "coil": return m.coil(a[0], a[1]);
            case "orderOf": return m.orderOf(a[0], a[1]);
            case "whyNot": return m.whyNot(a[0], a[1]);
            case "count": return m.count(a[0]);
            case "setting": return m.setting(a[0]);
            case "choice": return m.choice(a[0]);
            case "ifServed": return m.ifServed(a[0], a[1], a[2]);
            case "bestRule": return m.bestRule();
            case "bestStack": return m.bestStack();
            case "used": return Double.doubleToLongBits(m.used());
            default: return m.digest();
        }
    }

    private static final class Coil {
        final int number;
        final int width;
        final int grade;
        final int quality;
        final boolean rest;

        Coil(int number, int width, int grade, int quality, boolean rest) {
            this.number = number;
            this.width = width;
            this.grade = grade;
            this.quality = quality;
            this.rest = rest;
        }
    }

    private static final class Order {
        int number;
        int grade;
        int quality;
        int width;
        int still;
        int price;

        Order copy() {
            Order o = new Order();
            o.number = number;
            o.grade = grade;
            o.quality = quality;
            o.width = width;
            o.still = still;
            o.price = price;
            return o;
        }
    }

    /** What undo restores; coils never change, so that copies may share them. */
    private static final class State {
        final List<List<Coil>> stacks = new ArrayList<>();
        final List<Order> orders = new ArrayList<>();
        int[] settings = {20, 1, 1, 0};
        int nextCoil;
        int nextOrder;
        int moves;
        int ways;
        int strips;
        int stripWidths;
        int lost;
        int scrap;
        int prices;
        int received;
        int sent;

        State() {
            for (int i = 0; i < 6; i++) {
                stacks.add(new ArrayList<>());
            }
        }

        State copy() {
            State s = new State();
            for (int i = 0; i < 6; i++) {
                s.stacks.get(i).addAll(stacks.get(i));
            }
            for (Order o : orders) {
                s.orders.add(o.copy());
            }
            s.settings = settings.clone();
            s.nextCoil = nextCoil;
            s.nextOrder = nextOrder;
            s.moves = moves;
            s.ways = ways;
            s.strips = strips;
            s.stripWidths = stripWidths;
            s.lost = lost;
            s.scrap = scrap;
            s.prices = prices;
            s.received = received;
            s.sent = sent;
            return s;
        }

        List<Coil> coils() {
            List<Coil> all = new ArrayList<>();
            stacks.forEach(all::addAll);
            return all;
        }

        Coil coilBy(int number) {
            return coils().stream().filter(c -> c.number == number).findFirst().orElse(null);
        }

        Order orderBy(int number) {
            return orders.stream().filter(o -> o.number == number).findFirst().orElse(null);
        }

        int stackOf(Coil coil) {
            for (int i = 0; i < 6; i++) {
                if (stacks.get(i).contains(coil)) {
                    return i;
                }
            }
            return -1;
        }

        int above(Coil coil) {
            List<Coil> stack = stacks.get(stackOf(coil));
            return stack.size() - 1 - stack.indexOf(coil);
        }

        boolean canDig(Coil coil) {
            State tried = copy();
            return tried.dig(coil) >= 0;
        }

        /** Answers below 0 if a coil finds no room: then what is tried is left half done. */
        int dig(Coil coil) {
            int own = stackOf(coil);
            int moved = 0;
            while (above(coil) > 0) {
                int to = -1;
                for (int distance = 1; distance < 6; distance++) {
                    for (int other : new int[] {own - distance, own + distance}) {
                        if (other >= 0 && other < 6 && stacks.get(other).size() < 5
                                && (to < 0 || stacks.get(other).size() < stacks.get(to).size())) {
                            to = other;
                        }
                    }
                }
                if (to < 0) {
                    return -1;
                }
                move(own, to);
                moved++;
            }
            return moved;
        }

        Coil move(int from, int to) {
            Coil coil = stacks.get(from).remove(stacks.get(from).size() - 1);
            stacks.get(to).add(coil);
            moves++;
            ways += Math.abs(from - to);
            return coil;
        }

        int reason(Order order, Coil coil) {
            if (coil.grade != order.grade) {
                return 1;
            }
            if (coil.quality < order.quality) {
                return 2;
            }
            if (coil.width < order.width + settings[1]) {
                return 3;
            }
            return canDig(coil) ? 0 : 4;
        }

        int cuts(Order order, Coil coil) {
            int cuts = 0;
            int width = coil.width;
            while (cuts < order.still && width >= order.width + settings[1]) {
                cuts++;
                width -= order.width + settings[1];
            }
            return cuts;
        }

        Coil choice(Order order) {
            return coils().stream().filter(c -> reason(order, c) == 0).min(
                    Comparator.<Coil>comparingInt(c -> worth(order, c)).thenComparingInt(c -> c.number)).orElse(null);
        }

        int worth(Order order, Coil coil) {
            if (settings[3] == 0) {
                return coil.width - cuts(order, coil) * (order.width + settings[1]);
            }
            return settings[3] == 1 ? above(coil) : coil.quality;
        }

        int slit(Order order, Coil coil) {
            int own = stackOf(coil);
            dig(coil);
            stacks.get(own).remove(coil);
            int cuts = cuts(order, coil);
            int rest = coil.width - cuts * (order.width + settings[1]);
            order.still -= cuts;
            strips += cuts;
            stripWidths += cuts * order.width;
            lost += cuts * settings[1];
            prices += cuts * order.price;
            if (rest >= settings[0]) {
                int quality = Math.max(0, coil.quality - settings[2]);
                stacks.get(own).add(new Coil(nextCoil++, rest, coil.grade, quality, true));
            } else {
                scrap += rest;
            }
            if (order.still == 0) {
                orders.remove(order);
            }
            return cuts;
        }

        int serve(Order order) {
            int cuts = 0;
            for (Coil coil = choice(order); order.still > 0 && coil != null; coil = choice(order)) {
                cuts += slit(order, coil);
            }
            return cuts;
        }

        int serveAll() {
            List<Order> all = new ArrayList<>(orders);
            all.sort(Comparator.<Order>comparingInt(o -> -o.price).thenComparingInt(o -> o.number));
            all.forEach(this::serve);
            return all.size() - orders.size();
        }
    }

    private static final class Model {
        private static final String PART = "(?:[1-9][0-9]?|1[0-9][0-9]|200)g[0-3](?:q[0-9])?(?:s[0-5])?";
        private static final Pattern TEXT = Pattern.compile(PART + "(?:;" + PART + ")*");
        private static final Pattern GROUPS = Pattern.compile("([0-9]+)g([0-3])(?:q([0-9]))?(?:s([0-5]))?");

        State state = new State();
        String buffer = "";
        final List<State> saved = new ArrayList<>();

        static boolean isBeginning(String text) {
            Matcher matcher = TEXT.matcher(text);
            return matcher.matches() || matcher.hitEnd();
        }

        static void require(boolean holds, RuntimeException otherwise) {
            if (!holds) {
                throw otherwise;
            }
        }

        static void index(boolean holds) {
            require(holds, new IndexOutOfBoundsException());
        }

        static void argument(boolean holds) {
            require(holds, new IllegalArgumentException());
        }

        static void state(boolean holds) {
            require(holds, new IllegalStateException());
        }

        static boolean in(int value, int least, int most) {
            return least <= value && value <= most;
        }

        void save() {
            saved.add(state.copy());
            if (saved.size() > 6) {
                saved.remove(0);
            }
        }

        int receive(int width, int grade, int quality, int stack) {
            index(in(stack, 0, 5));
            argument(in(width, 1, 200) && in(grade, 0, 3) && in(quality, 0, 9));
            state(state.stacks.get(stack).size() < 5);
            save();
            return take(width, grade, quality, stack);
        }

        int take(int width, int grade, int quality, int stack) {
            state.stacks.get(stack).add(new Coil(state.nextCoil, width, grade, quality, false));
            state.received += width;
            return state.nextCoil++;
        }

        int move(int stack, int to) {
            index(in(stack, 0, 5) && in(to, 0, 5));
            argument(stack != to);
            state(!state.stacks.get(stack).isEmpty() && state.stacks.get(to).size() < 5);
            save();
            return state.move(stack, to).number;
        }

        int dig(int number) {
            index(state.coilBy(number) != null);
            state(state.canDig(state.coilBy(number)));
            save();
            return state.dig(state.coilBy(number));
        }

        int sendAway(int number) {
            Coil coil = state.coilBy(number);
            index(coil != null);
            state(state.canDig(coil));
            save();
            state.dig(coil);
            state.stacks.get(state.stackOf(coil)).remove(coil);
            state.sent += coil.width;
            return coil.width;
        }

        int order(int grade, int quality, int width, int strips, int price) {
            argument(in(grade, 0, 3) && in(quality, 0, 9) && in(width, 2, 100) && in(strips, 1, 40)
                    && in(price, 1, 99));
            state(state.orders.size() < 8);
            save();
            Order o = new Order();
            o.number = state.nextOrder++;
            o.grade = grade;
            o.quality = quality;
            o.width = width;
            o.still = strips;
            o.price = price;
            state.orders.add(o);
            return o.number;
        }

        int cancel(int number) {
            index(state.orderBy(number) != null);
            save();
            Order order = state.orderBy(number);
            state.orders.remove(order);
            return order.still;
        }

        int slit(int number, int coil) {
            Order order = state.orderBy(number);
            index(order != null && state.coilBy(coil) != null);
            state(state.reason(order, state.coilBy(coil)) == 0);
            save();
            return state.slit(order, state.coilBy(coil));
        }

        int serve(int number) {
            index(state.orderBy(number) != null);
            save();
            return state.serve(state.orderBy(number));
        }

        int serveAll() {
            save();
            return state.serveAll();
        }

        int set(int setting, int value) {
            index(in(setting, 0, 3));
            int[] least = {1, 0, 0, 0};
            int[] most = {100, 5, 9, 2};
            argument(in(value, least[setting], most[setting]));
            save();
            int previous = state.settings[setting];
            state.settings[setting] = value;
            return previous;
        }

        int append(int code) {
            argument(in(code, 33, 126));
            state(buffer.length() < 60);
            buffer += (char) code;
            return buffer.length();
        }

        int clearBuffer() {
            int length = buffer.length();
            buffer = "";
            return length;
        }

        int firstError() {
            int i = 0;
            while (i < buffer.length() && isBeginning(buffer.substring(0, i + 1))) {
                i++;
            }
            return i;
        }

        int receiveAll() {
            argument(TEXT.matcher(buffer).matches());
            save();
            int received = 0;
            for (String part : buffer.split(";")) {
                Matcher m = GROUPS.matcher(part);
                m.matches();
                int stack = m.group(4) == null ? emptiest() : Integer.parseInt(m.group(4));
                if (state.stacks.get(stack).size() == 5) {
                    break;
                }
                int quality = m.group(3) == null ? 5 : Integer.parseInt(m.group(3));
                take(Integer.parseInt(m.group(1)), Integer.parseInt(m.group(2)), quality, stack);
                received++;
            }
            buffer = "";
            return received;
        }

        int emptiest() {
            int best = 0;
            for (int i = 5; i >= 0; i--) {
                best = state.stacks.get(i).size() <= state.stacks.get(best).size() ? i : best;
            }
            // Of several the lowest: going down, an equal one takes over, and stack 0 is compared last.
            return best;
        }

        int undo() {
            state(!saved.isEmpty());
            state = saved.remove(saved.size() - 1);
            return saved.size();
        }

        int at(int stack, int height) {
            index(in(stack, 0, 5));
            argument(in(height, 0, 4));
            List<Coil> coils = state.stacks.get(stack);
            return height < coils.size() ? coils.get(height).number : -1;
        }

        int coil(int number, int what) {
            index(in(number, 0, state.nextCoil - 1));
            argument(in(what, 0, 5));
            Coil coil = state.coilBy(number);
            if (coil == null) {
                return -1;
            }
            return new int[] {coil.width, coil.grade, coil.quality, state.stackOf(coil), state.above(coil),
                coil.rest ? 1 : 0}[what];
        }

        int orderOf(int place, int what) {
            argument(place >= 0 && in(what, 0, 7));
            if (place >= state.orders.size()) {
                return -1;
            }
            Order o = state.orders.get(place);
            int suiting = 0;
            int fitting = 0;
            for (Coil coil : state.coils()) {
                if (coil.grade == o.grade && coil.quality >= o.quality) {
                    int strips = coil.width / (o.width + state.settings[1]);
                    suiting += strips > 0 ? 1 : 0;
                    fitting += strips;
                }
            }
            return new int[] {o.number, o.grade, o.quality, o.width, o.still, o.price, suiting, fitting}[what];
        }

        int whyNot(int number, int coil) {
            index(state.orderBy(number) != null && state.coilBy(coil) != null);
            return state.reason(state.orderBy(number), state.coilBy(coil));
        }

        int count(int what) {
            argument(in(what, 0, 13));
            List<Coil> coils = state.coils();
            int widths = coils.stream().mapToInt(c -> c.width).sum();
            int rests = (int) coils.stream().filter(c -> c.rest).count();
            return new int[] {coils.size(), widths, rests, state.orders.size(), state.moves, state.ways,
                state.strips, state.stripWidths, state.lost, state.scrap, state.prices, state.received, state.sent,
                saved.size()}[what];
        }

        int setting(int setting) {
            index(in(setting, 0, 3));
            return state.settings[setting];
        }

        int choice(int number) {
            index(state.orderBy(number) != null);
            Coil coil = state.choice(state.orderBy(number));
            return coil == null ? -1 : coil.number;
        }

        int ifServed(int number, int rule, int what) {
            index(state.orderBy(number) != null);
            argument(in(rule, 0, 2) && in(what, 0, 3));
            State tried = state.copy();
            tried.settings[3] = rule;
            int cuts = tried.serve(tried.orderBy(number));
            return new int[] {cuts, tried.moves - state.moves, tried.scrap - state.scrap,
                tried.ways - state.ways}[what];
        }

        int bestRule() {
            State[] tried = new State[3];
            int best = 0;
            for (int rule = 0; rule < 3; rule++) {
                tried[rule] = state.copy();
                tried[rule].settings[3] = rule;
                tried[rule].serveAll();
                Comparator<State> order = Comparator.<State>comparingInt(s -> -s.prices)
                        .thenComparingInt(s -> s.scrap).thenComparingInt(s -> s.ways);
                best = order.compare(tried[rule], tried[best]) < 0 ? rule : best;
            }
            return best;
        }

        int bestStack() {
            List<int[]> ranked = new ArrayList<>();
            for (int i = 0; i < 6; i++) {
                List<Coil> coils = state.stacks.get(i);
                if (coils.size() < 5) {
                    int top = coils.isEmpty() ? 0 : coils.get(coils.size() - 1).width;
                    int wider = (int) coils.stream().filter(c -> c.width > top).count();
                    ranked.add(new int[] {wider, coils.size(), i});
                }
            }
            return ranked.stream().min(Comparator.<int[]>comparingInt(r -> r[0]).thenComparingInt(r -> r[1])
                    .thenComparingInt(r -> r[2])).map(r -> r[2]).orElse(-1);
        }

        double used() {
            double sum = state.stripWidths + state.lost + state.scrap;
            return sum == 0 ? 1.0 : state.stripWidths / sum;
        }

        long digest() {
            List<Long> values = new ArrayList<>();
            for (int what = 0; what < 14; what++) {
                values.add((long) count(what));
            }
            for (int value : state.settings) {
                values.add((long) value);
            }
            for (int place = 0; place < 30; place++) {
                int number = at(place / 5, place % 5);
                values.add((long) number);
                for (int what = 0; number >= 0 && what < 6; what++) {
                    values.add((long) coil(number, what));
                }
            }
            for (int place = 0; place < state.orders.size(); place++) {
                for (int what = 0; what < 8; what++) {
                    values.add((long) orderOf(place, what));
                }
                int number = state.orders.get(place).number;
                values.add((long) choice(number));
                for (int i = 0; i < 8; i++) {
                    values.add((long) ifServed(number, i / 4, i % 4));
                }
            }
            values.add((long) bestRule());
            values.add((long) bestStack());
            values.add(Double.doubleToLongBits(used()));
            values.add((long) buffer.length());
            buffer.chars().forEach(c -> values.add((long) c));
            long hash = 2879;
            for (long value : values) {
                hash = 31 * hash + value;
            }
            return hash;
        }
    }
}
