import java.util.ArrayList;
import java.util.List;

/** What the tests are written with. .ci/run finds it by -sourcepath; it is no test itself. */
class Checks {
    protected interface Call {
        long answer();
    }

    protected interface Test {
        void run();
    }

    protected static final Class<? extends RuntimeException> INDEX = IndexOutOfBoundsException.class;
    protected static final Class<? extends RuntimeException> ARGUMENT = IllegalArgumentException.class;
    protected static final Class<? extends RuntimeException> STATE = IllegalStateException.class;
    protected static final int NONE = -1;

    private static final List<String> faults = new ArrayList<>();
    private static int failed = 0;

    /** Ends the program with 1 if a test has failed. */
    protected static void finish() {
        if (failed != 0) {
            System.exit(1);
        }
    }

    protected static void test(String name, Test test) {
        faults.clear();
        try {
            test.run();
        } catch (RuntimeException e) {
            faults.add("threw " + e);
        }
        for (String fault : faults) {
            System.out.println("  " + fault);
        }
        System.out.println((faults.isEmpty() ? "PASS " : "FAIL ") + name);
        failed += faults.isEmpty() ? 0 : 1;
    }

    /** Says that the running test has found something wrong. */
    protected static void fault(String what) {
        faults.add(what);
    }

    protected static void same(String what, long due, long got) {
        if (due != got) {
            fault(what + " answered " + got + ", due is " + due);
        }
    }

    protected static void sameShare(String what, double due, double got) {
        same(what + " (bits)", Double.doubleToLongBits(due), Double.doubleToLongBits(got));
    }

    /** The call throws just this exception, and neither the state nor what undo finds is changed. */
    protected static void refuses(CoilSlits x, String what, Class<? extends RuntimeException> due, Call call) {
        long before = x.digest();
        try {
            faults.add(what + " answered " + call.answer() + ", due is " + due.getSimpleName());
        } catch (RuntimeException e) {
            if (e.getClass() != due) {
                faults.add(what + " threw " + e + ", due is " + due.getSimpleName());
            }
        }
        same(what + ": the digest behind the exception", before, x.digest());
    }

    /** The call answers this, saves one state, and undo brings the state before it back. */
    protected static void undoable(CoilSlits x, String what, long due, Call call) {
        long before = x.digest();
        int kept = x.count(13);
        same(what, due, call.answer());
        same(what + ": saved states", kept + 1, x.count(13));
        same(what + ": undo", kept, x.undo());
        same(what + ": the digest behind undo", before, x.digest());
        same(what + ", again", due, call.answer());
    }

    protected static void type(CoilSlits x, String text) {
        for (int i = 0; i < text.length(); i++) {
            x.append(text.charAt(i));
        }
    }

    protected static CoilSlits typed(String text) {
        CoilSlits x = new CoilSlits();
        type(x, text);
        return x;
    }

    /** An object that has received the coils of these texts, each of them at most 60 characters. */
    protected static CoilSlits withCoils(String... texts) {
        CoilSlits x = new CoilSlits();
        for (String text : texts) {
            type(x, text);
            x.receiveAll();
        }
        return x;
    }

    /** Stacks 0 to 5 with so many coils each, all of width 50, grade 0, quality 5, from stack 0 on. */
    protected static CoilSlits withHeights(int... heights) {
        CoilSlits x = new CoilSlits();
        for (int stack = 0; stack < heights.length; stack++) {
            for (int i = 0; i < heights[stack]; i++) {
                x.receive(50, 0, 5, stack);
            }
        }
        return x;
    }

    protected static void sameCoil(CoilSlits x, int coil, int... due) {
        for (int what = 0; what < due.length; what++) {
            same("coil(" + coil + ", " + what + ")", due[what], x.coil(coil, what));
        }
    }

    protected static void sameOrder(CoilSlits x, int place, int... due) {
        for (int what = 0; what < due.length; what++) {
            same("orderOf(" + place + ", " + what + ")", due[what], x.orderOf(place, what));
        }
    }

    protected static void sameCounts(CoilSlits x, int first, int... due) {
        for (int i = 0; i < due.length; i++) {
            same("count(" + (first + i) + ")", due[i], x.count(first + i));
        }
    }

    protected static void sameStack(CoilSlits x, int stack, int... due) {
        for (int height = 0; height < 5; height++) {
            int coil = height < due.length ? due[height] : NONE;
            same("at(" + stack + ", " + height + ")", coil, x.at(stack, height));
        }
    }

    /** The digest is the one of what the object's other calls answer; the buffer has no look of its own. */
    protected static void sameDigest(CoilSlits x, String buffer) {
        List<Long> values = new ArrayList<>();
        for (int what = 0; what < 14; what++) {
            values.add((long) x.count(what));
        }
        for (int setting = 0; setting < 4; setting++) {
            values.add((long) x.setting(setting));
        }
        for (int place = 0; place < 30; place++) {
            int coil = x.at(place / 5, place % 5);
            values.add((long) coil);
            for (int what = 0; coil != NONE && what < 6; what++) {
                values.add((long) x.coil(coil, what));
            }
        }
        for (int place = 0; x.orderOf(place, 0) != NONE; place++) {
            addOrder(values, x, place);
        }
        values.add((long) x.bestRule());
        values.add((long) x.bestStack());
        values.add(Double.doubleToLongBits(x.used()));
        values.add((long) buffer.length());
        for (char letter : buffer.toCharArray()) {
            values.add((long) letter);
        }
        long hash = 2879;
        for (long value : values) {
            hash = 31 * hash + value;
        }
        same("digest() with the buffer " + buffer, hash, x.digest());
        same("digest(), again", hash, x.digest());
    }

    private static void addOrder(List<Long> values, CoilSlits x, int place) {
        for (int what = 0; what < 8; what++) {
            values.add((long) x.orderOf(place, what));
        }
        int number = x.orderOf(place, 0);
        values.add((long) x.choice(number));
        for (int what = 0; what < 8; what++) {
            values.add((long) x.ifServed(number, what / 4, what % 4));
        }
    }
}
