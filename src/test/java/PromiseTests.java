/** The promises of ../shared/DOC.md, one by one, with answers worked out by hand. */
public final class PromiseTests extends Checks {
    public static void main(String[] args) {
        test("promise 1: a new object", PromiseTests::newObject);
        test("promise 2: receive", PromiseTests::receive);
        test("promise 2: receive refuses", PromiseTests::receiveRefuses);
        test("promise 3: move", PromiseTests::move);
        test("promise 3: move takes along all that a coil is", PromiseTests::moveEnds);
        test("promise 3: move refuses", PromiseTests::moveRefuses);
        test("promise 4: dig", PromiseTests::dig);
        test("promise 4: dig prefers fewest coils to near stacks", PromiseTests::digFewest);
        test("promise 4: dig refuses", PromiseTests::digRefuses);
        test("promise 5: sendAway", PromiseTests::sendAway);
        test("promise 5: sendAway refuses", PromiseTests::sendAwayRefuses);
        test("promise 6: order", PromiseTests::order);
        test("promise 6: order refuses", PromiseTests::orderRefuses);
        test("promise 7: cancel", PromiseTests::cancel);
        test("promise 8: slit, the rest goes back", PromiseTests::slitRest);
        test("promise 8: slit, the rest is scrap", PromiseTests::slitScrap);
        test("promise 8: slit digs, and puts the rest on the same stack", PromiseTests::slitDigs);
        test("promise 8: slit refuses", PromiseTests::slitRefuses);
        test("promise 9: serve by rule 0", PromiseTests::serveByRest);
        test("promise 9: serve by rule 1", PromiseTests::serveByAbove);
        test("promise 9: serve by rule 2", PromiseTests::serveByQuality);
        test("promise 9: serve, edges and refusals", PromiseTests::serveEdges);
        test("promise 9: serve passes over what cannot be dug out", PromiseTests::serveBuried);
        test("promise 10: serveAll", PromiseTests::serveAll);
        test("promise 10: serveAll, eight orders and orders not done", PromiseTests::serveAllEight);
        test("promise 11: set", PromiseTests::set);
        test("promise 12: append", PromiseTests::append);
        test("promise 13: clearBuffer", PromiseTests::clearBuffer);
        test("promise 14: firstError", PromiseTests::firstError);
        test("promise 15: receiveAll", PromiseTests::receiveAll);
        test("promise 15: receiveAll behind a longer buffer", PromiseTests::receiveAllBehindLonger);
        test("promise 15: receiveAll up to a full stack", PromiseTests::receiveAllFull);
        test("promise 15: receiveAll refuses", PromiseTests::receiveAllRefuses);
        test("promise 16: undo", PromiseTests::undo);
        test("promise 16: undo brings back all but the buffer", PromiseTests::undoAll);
        test("promise 17: at", PromiseTests::at);
        test("promise 18: coil", PromiseTests::coil);
        test("promise 19: orderOf", PromiseTests::orderOf);
        test("promise 20: whyNot", PromiseTests::whyNot);
        test("promise 21: count", PromiseTests::count);
        test("promise 22: setting", PromiseTests::setting);
        test("promise 23: choice", PromiseTests::choice);
        test("promise 24: ifServed", PromiseTests::ifServed);
        test("promise 25: bestRule", PromiseTests::bestRule);
        test("promise 26: bestStack", PromiseTests::bestStack);
        test("promise 27: used", PromiseTests::used);
        test("promise 28: digest", PromiseTests::digest);
        finish();
    }

    // ---- promise 1

    private static void newObject() {
        CoilSlits x = new CoilSlits();
        same("NONE", -1, CoilSlits.NONE);
        sameCounts(x, 0, new int[14]);
        for (int stack = 0; stack < 6; stack++) {
            sameStack(x, stack);
        }
        int[] settings = {20, 1, 1, 0};
        for (int i = 0; i < 4; i++) {
            same("setting(" + i + ")", settings[i], x.setting(i));
        }
        same("orderOf(0, 0)", NONE, x.orderOf(0, 0));
        sameShare("used()", 1.0, x.used());
        same("bestRule()", 0, x.bestRule());
        same("bestStack()", 0, x.bestStack());
        same("firstError()", 0, x.firstError());
        same("clearBuffer()", 0, x.clearBuffer());
        refuses(x, "undo()", STATE, () -> x.undo());
        refuses(x, "coil(0, 0)", INDEX, () -> x.coil(0, 0));
        refuses(x, "cancel(0)", INDEX, () -> x.cancel(0));
    }

    // ---- promise 2

    private static void receive() {
        CoilSlits x = new CoilSlits();
        undoable(x, "receive(1, 0, 0, 0)", 0, () -> x.receive(1, 0, 0, 0));
        undoable(x, "receive(200, 3, 9, 5)", 1, () -> x.receive(200, 3, 9, 5));
        undoable(x, "receive(77, 2, 4, 0)", 2, () -> x.receive(77, 2, 4, 0));
        sameCoil(x, 0, 1, 0, 0, 0, 1, 0);
        sameCoil(x, 1, 200, 3, 9, 5, 0, 0);
        sameCoil(x, 2, 77, 2, 4, 0, 0, 0);
        sameStack(x, 0, 0, 2);
        sameStack(x, 5, 1);
        sameCounts(x, 0, 3, 278, 0, 0, 0, 0, 0, 0, 0, 0, 0, 278, 0, 3);
    }

    private static void receiveRefuses() {
        CoilSlits x = withHeights(5);
        refuses(x, "stack -1", INDEX, () -> x.receive(1, 0, 0, -1));
        refuses(x, "stack 6", INDEX, () -> x.receive(0, 4, 10, 6));
        refuses(x, "stack least", INDEX, () -> x.receive(1, 0, 0, Integer.MIN_VALUE));
        refuses(x, "stack most", INDEX, () -> x.receive(1, 0, 0, Integer.MAX_VALUE));
        refuses(x, "width 0", ARGUMENT, () -> x.receive(0, 0, 0, 1));
        refuses(x, "width 201", ARGUMENT, () -> x.receive(201, 0, 0, 1));
        refuses(x, "grade -1", ARGUMENT, () -> x.receive(1, -1, 0, 1));
        refuses(x, "grade 4", ARGUMENT, () -> x.receive(1, 4, 0, 1));
        refuses(x, "quality -1", ARGUMENT, () -> x.receive(1, 0, -1, 1));
        refuses(x, "quality 10", ARGUMENT, () -> x.receive(1, 0, 10, 1));
        refuses(x, "width 0, full stack", ARGUMENT, () -> x.receive(0, 0, 0, 0));
        refuses(x, "full stack", STATE, () -> x.receive(1, 0, 0, 0));
        same("the next number", 5, x.receive(1, 0, 0, 1));
    }

    // ---- promise 3

    private static void move() {
        CoilSlits x = withHeights(2, 0, 0, 0, 0, 1);
        undoable(x, "move(0, 5)", 1, () -> x.move(0, 5));
        sameStack(x, 0, 0);
        sameStack(x, 5, 2, 1);
        undoable(x, "move(5, 3)", 1, () -> x.move(5, 3));
        sameStack(x, 5, 2);
        sameStack(x, 3, 1);
        sameCounts(x, 4, 2, 7);
        sameCoil(x, 1, 50, 0, 5, 3, 0, 0);
    }

    private static void moveEnds() {
        CoilSlits x = withCoils("101g3q1s0;20g0s0");
        x.move(0, 5);
        same("move(0, 5), the lowest coil of stack 0", 0, x.move(0, 5));
        sameCoil(x, 0, 101, 3, 1, 5, 0, 0);
        CoilSlits y = withHeights(0, 0, 0, 0, 0, 4);
        y.receive(44, 2, 8, 5);
        same("move(5, 0), the topmost coil of stack 5", 4, y.move(5, 0));
        sameCoil(y, 4, 44, 2, 8, 0, 0, 0);
        CoilSlits z = withCoils("50g0s3");
        z.order(0, 0, 9, 2, 1);
        z.slit(0, 0);
        z.move(3, 1);
        sameCoil(z, 1, 30, 0, 4, 1, 0, 1);
    }

    private static void moveRefuses() {
        CoilSlits x = withHeights(5, 1);
        refuses(x, "move(-1, 0)", INDEX, () -> x.move(-1, 0));
        refuses(x, "move(0, 6)", INDEX, () -> x.move(0, 6));
        refuses(x, "move(6, 6)", INDEX, () -> x.move(6, 6));
        refuses(x, "move(0, 0)", ARGUMENT, () -> x.move(0, 0));
        refuses(x, "move(3, 3), empty", ARGUMENT, () -> x.move(3, 3));
        refuses(x, "move(2, 1), empty", STATE, () -> x.move(2, 1));
        refuses(x, "move(1, 0), full", STATE, () -> x.move(1, 0));
    }

    // ---- promise 4

    private static void dig() {
        CoilSlits x = withHeights(0, 1, 3);
        undoable(x, "dig(1)", 2, () -> x.dig(1));
        // The topmost goes to stack 3, the only near one that is empty; then 0 and 4 are as near.
        sameStack(x, 3, 3);
        sameStack(x, 0, 2);
        sameStack(x, 2, 1);
        sameCounts(x, 4, 2, 3);
        undoable(x, "dig(1), on top now", 0, () -> x.dig(1));
        sameCounts(x, 4, 2, 3);
    }

    private static void digFewest() {
        CoilSlits x = withHeights(3, 2, 2, 2, 2, 1);
        same("dig(0)", 2, x.dig(0));
        sameStack(x, 5, 11, 2);
        sameStack(x, 1, 3, 4, 1);
        sameCounts(x, 4, 2, 6);
        CoilSlits y = withHeights(1, 4, 1, 4, 4, 4);
        same("dig(2)", 2, y.dig(2));
        same("dig goes on with three", 1, y.dig(1));
    }

    private static void digRefuses() {
        CoilSlits x = withHeights(5, 5, 5, 5, 5, 4);
        refuses(x, "two above, room for one", STATE, () -> x.dig(2));
        refuses(x, "no such coil", INDEX, () -> x.dig(29));
        refuses(x, "coil -1", INDEX, () -> x.dig(-1));
        refuses(x, "coil least", INDEX, () -> x.dig(Integer.MIN_VALUE));
        refuses(x, "the last stack has no room but its own", STATE, () -> x.dig(27));
        same("one above, room for one", 1, x.dig(3));
        sameStack(x, 5, 25, 26, 27, 28, 4);
        refuses(x, "now there is room in stack 0 alone", STATE, () -> x.dig(2));
        same("from another stack into it", 1, x.dig(8));
        x.sendAway(8);
        refuses(x, "a coil that is gone", INDEX, () -> x.dig(8));
    }

    // ---- promise 5

    private static void sendAway() {
        CoilSlits x = withCoils("120g1q7s2;60g0s2;30g0s3");
        undoable(x, "sendAway(0)", 120, () -> x.sendAway(0));
        sameStack(x, 1, 1);
        sameStack(x, 2);
        same("coil(0, 0)", NONE, x.coil(0, 0));
        same("coil(0, 5)", NONE, x.coil(0, 5));
        sameCounts(x, 0, 2, 90, 0, 0, 1, 1, 0, 0, 0, 0, 0, 210, 120);
        undoable(x, "sendAway(2)", 30, () -> x.sendAway(2));
        same("count(12)", 150, x.count(12));
        same("the next number", 3, x.receive(1, 0, 0, 0));
    }

    private static void sendAwayRefuses() {
        CoilSlits x = withHeights(5, 5, 5, 5, 5, 5);
        refuses(x, "no room at all", STATE, () -> x.sendAway(0));
        refuses(x, "no such coil", INDEX, () -> x.sendAway(30));
        refuses(x, "coil -1", INDEX, () -> x.sendAway(-1));
        same("on top", 50, x.sendAway(4));
        refuses(x, "a coil that is gone", INDEX, () -> x.sendAway(4));
        refuses(x, "its own stack's room is no help", STATE, () -> x.sendAway(2));
    }

    // ---- promise 6

    private static void order() {
        CoilSlits x = new CoilSlits();
        undoable(x, "order least", 0, () -> x.order(0, 0, 2, 1, 1));
        undoable(x, "order most", 1, () -> x.order(3, 9, 100, 40, 99));
        sameOrder(x, 0, 0, 0, 0, 2, 1, 1, 0, 0);
        sameOrder(x, 1, 1, 3, 9, 100, 40, 99, 0, 0);
        sameOrder(x, 2, NONE, NONE);
        same("count(3)", 2, x.count(3));
    }

    private static void orderRefuses() {
        CoilSlits x = new CoilSlits();
        refuses(x, "grade -1", ARGUMENT, () -> x.order(-1, 0, 2, 1, 1));
        refuses(x, "grade 4", ARGUMENT, () -> x.order(4, 0, 2, 1, 1));
        refuses(x, "quality -1", ARGUMENT, () -> x.order(0, -1, 2, 1, 1));
        refuses(x, "quality 10", ARGUMENT, () -> x.order(0, 10, 2, 1, 1));
        refuses(x, "width 1", ARGUMENT, () -> x.order(0, 0, 1, 1, 1));
        refuses(x, "width 101", ARGUMENT, () -> x.order(0, 0, 101, 1, 1));
        refuses(x, "strips 0", ARGUMENT, () -> x.order(0, 0, 2, 0, 1));
        refuses(x, "strips 41", ARGUMENT, () -> x.order(0, 0, 2, 41, 1));
        refuses(x, "price 0", ARGUMENT, () -> x.order(0, 0, 2, 1, 0));
        refuses(x, "price 100", ARGUMENT, () -> x.order(0, 0, 2, 1, 100));
        for (int i = 0; i < 8; i++) {
            same("order " + i, i, x.order(0, 0, 2, 1, 1));
        }
        refuses(x, "a ninth order", STATE, () -> x.order(0, 0, 2, 1, 1));
        refuses(x, "a ninth order of grade 4", ARGUMENT, () -> x.order(4, 0, 2, 1, 1));
        x.cancel(3);
        same("the next number", 8, x.order(0, 0, 2, 1, 1));
        same("the last one", 8, x.orderOf(7, 0));
    }

    // ---- promise 7

    private static void cancel() {
        CoilSlits x = withCoils("50g0");
        x.order(0, 0, 30, 3, 5);
        x.order(1, 2, 40, 17, 6);
        x.order(2, 3, 50, 40, 7);
        same("slit(0, 0)", 1, x.slit(0, 0));
        undoable(x, "cancel(1)", 17, () -> x.cancel(1));
        sameOrder(x, 0, 0, 0, 0, 30, 2, 5);
        sameOrder(x, 1, 2, 2, 3, 50, 40, 7);
        same("orderOf(2, 0)", NONE, x.orderOf(2, 0));
        refuses(x, "cancel(1), gone", INDEX, () -> x.cancel(1));
        refuses(x, "cancel(3)", INDEX, () -> x.cancel(3));
        refuses(x, "cancel(-1)", INDEX, () -> x.cancel(-1));
        same("cancel(0), of which one is cut", 2, x.cancel(0));
        same("cancel(2)", 40, x.cancel(2));
        same("count(3)", 0, x.count(3));
    }

    // ---- promise 8

    private static void slitRest() {
        CoilSlits x = withCoils("100g0q5s4");
        x.order(0, 5, 30, 2, 7);
        undoable(x, "slit(0, 0)", 2, () -> x.slit(0, 0));
        same("coil(0, 0)", NONE, x.coil(0, 0));
        sameCoil(x, 1, 38, 0, 4, 4, 0, 1);
        sameStack(x, 4, 1);
        same("the order is gone", NONE, x.orderOf(0, 0));
        sameCounts(x, 0, 1, 38, 1, 0, 0, 0, 2, 60, 2, 0, 14, 100, 0);
        x.set(2, 9);
        x.set(0, 7);
        x.order(0, 0, 30, 1, 1);
        same("slit(1, 1)", 1, x.slit(1, 1));
        sameCoil(x, 2, 7, 0, 0, 4, 0, 1);
    }

    private static void slitScrap() {
        CoilSlits x = withCoils("50g0;51g0;31g0;62g0");
        x.order(0, 0, 30, 5, 3);
        undoable(x, "slit(0, 0)", 1, () -> x.slit(0, 0));
        sameOrder(x, 0, 0, 0, 0, 30, 4, 3);
        sameCounts(x, 0, 3, 144, 0, 1, 0, 0, 1, 30, 1, 19, 3, 194, 0);
        same("slit(0, 1), a rest of 20", 1, x.slit(0, 1));
        sameCoil(x, 4, 20, 0, 4, 1, 0, 1);
        same("slit(0, 2), a rest of 0", 1, x.slit(0, 2));
        sameCounts(x, 8, 3, 19);
        x.set(1, 0);
        x.set(0, 3);
        same("slit(0, 3), nothing lost", 2, x.slit(0, 3));
        sameCounts(x, 8, 3, 21);
        same("the order is done", 0, x.count(3));
        same("count(0)", 1, x.count(0));
    }

    private static void slitDigs() {
        CoilSlits x = withCoils("10g1s3;90g0q8s3;11g1s3;12g1s3;13g1s4");
        x.order(0, 0, 9, 2, 1);
        undoable(x, "slit(0, 1)", 2, () -> x.slit(0, 1));
        sameStack(x, 3, 0, 5);
        sameCoil(x, 5, 70, 0, 7, 3, 0, 1);
        sameStack(x, 2, 3);
        sameStack(x, 1, 2);
        sameCounts(x, 4, 2, 3);
    }

    private static void slitRefuses() {
        CoilSlits x = withCoils("50g0q4;50g1q9;31g1q9");
        x.order(1, 5, 31, 5, 3);
        x.order(0, 5, 31, 5, 3);
        refuses(x, "another grade", STATE, () -> x.slit(0, 0));
        refuses(x, "too little quality", STATE, () -> x.slit(1, 0));
        refuses(x, "no strip fits", STATE, () -> x.slit(0, 2));
        refuses(x, "no such order", INDEX, () -> x.slit(2, 0));
        refuses(x, "order -1", INDEX, () -> x.slit(-1, 0));
        refuses(x, "no such coil", INDEX, () -> x.slit(0, 3));
        refuses(x, "coil -1", INDEX, () -> x.slit(0, -1));
        CoilSlits y = withHeights(5, 5, 5, 5, 5, 5);
        y.order(0, 0, 20, 1, 1);
        refuses(y, "cannot be dug out", STATE, () -> y.slit(0, 3));
        same("on top", 1, y.slit(0, 4));
    }

    // ---- promise 9

    private static void serveByRest() {
        // Rests of one strip of 31: 9, 2, 69, 2; if five are cut: 9, 2, 7, 2.
        CoilSlits x = withCoils("40g0s0;64g0s1;100g0s2;33g0s3");
        x.order(0, 0, 30, 7, 2);
        undoable(x, "serve(0)", 7, () -> x.serve(0));
        sameCounts(x, 0, 0, 0, 0, 0, 0, 0, 7, 210, 7, 20, 14, 237);
        CoilSlits y = withCoils("40g0s0;64g0s1;100g0s2;33g0s3");
        y.order(0, 0, 30, 1, 2);
        same("the least rest with one strip", 1, y.serve(0));
        same("coil(3, 0)", NONE, y.coil(3, 0));
        same("count(0)", 3, y.count(0));
        CoilSlits z = withCoils("40g0s0;64g0s1;100g0s2;33g0s3");
        z.order(0, 0, 30, 2, 2);
        same("of two the lowest number", 2, z.serve(0));
        same("coil(1, 0)", NONE, z.coil(1, 0));
        same("coil(3, 0)", 33, z.coil(3, 0));
    }

    private static void serveByAbove() {
        CoilSlits x = withCoils("40g0s0;50g1s0;90g0s1;60g0s2");
        x.set(3, 1);
        x.order(0, 0, 30, 3, 2);
        undoable(x, "serve(0)", 3, () -> x.serve(0));
        same("coil(2, 0)", NONE, x.coil(2, 0));
        same("coil(3, 0)", NONE, x.coil(3, 0));
        same("coil(0, 0)", 40, x.coil(0, 0));
        sameCounts(x, 4, 0, 0, 3);
    }

    private static void serveByQuality() {
        CoilSlits x = withCoils("40g0q3s0;50g1s0;90g0q9s1;60g0q2s2;45g0q3s3");
        x.set(3, 2);
        x.order(0, 3, 30, 1, 2);
        undoable(x, "serve(0)", 1, () -> x.serve(0));
        same("coil(0, 0)", NONE, x.coil(0, 0));
        same("count(0)", 4, x.count(0));
        sameCounts(x, 4, 1, 4, 1);
    }

    private static void serveEdges() {
        CoilSlits x = withCoils("40g0;50g0");
        x.order(1, 0, 30, 1, 2);
        x.order(0, 0, 30, 40, 2);
        undoable(x, "serve(0), no coil suits", 0, () -> x.serve(0));
        undoable(x, "serve(1), not done", 2, () -> x.serve(1));
        sameOrder(x, 1, 1, 0, 0, 30, 38, 2, 0, 0);
        refuses(x, "serve(2)", INDEX, () -> x.serve(2));
        refuses(x, "serve(-1)", INDEX, () -> x.serve(-1));
    }

    private static void serveBuried() {
        CoilSlits x = new CoilSlits();
        for (int i = 0; i < 30; i++) {
            x.receive(i == 6 ? 31 : 100, i == 6 || i == 9 ? 0 : 1, 5, i / 5);
        }
        x.order(0, 0, 30, 9, 1);
        x.set(0, 1);
        // Coil 6 leaves no rest but lies under three; coil 9 is cut first, its rest lies in its way.
        same("choice(0)", 9, x.choice(0));
        same("serve(0)", 3, x.serve(0));
        sameStack(x, 1, 5, 6, 7, 8, 30);
        same("whyNot(0, 6)", 4, x.whyNot(0, 6));
        same("choice(0)", NONE, x.choice(0));
    }

    // ---- promise 10

    private static void serveAll() {
        CoilSlits empty = new CoilSlits();
        undoable(empty, "serveAll(), no orders", 0, () -> empty.serveAll());
        CoilSlits x = withCoils("100g0q9");
        x.order(0, 0, 40, 1, 5);
        x.order(0, 0, 30, 1, 9);
        x.order(0, 0, 20, 1, 9);
        x.order(0, 0, 10, 2, 5);
        // 31 for order 1, 21 for order 2, 41 for order 0: a rest of 7 is scrap.
        undoable(x, "serveAll()", 3, () -> x.serveAll());
        sameOrder(x, 0, 3, 0, 0, 10, 2, 5);
        same("count(3)", 1, x.count(3));
        sameCounts(x, 6, 3, 90, 3, 7, 23, 100);
        CoilSlits y = withCoils("60g0");
        y.order(0, 0, 40, 1, 5);
        y.order(0, 0, 50, 1, 5);
        same("of equal prices the lower number", 1, y.serveAll());
        same("orderOf(0, 0)", 1, y.orderOf(0, 0));
        CoilSlits z = withCoils("60g0");
        z.order(0, 0, 40, 2, 5);
        same("none is done", 0, z.serveAll());
        sameOrder(z, 0, 0, 0, 0, 40, 1, 5);
    }

    private static void serveAllEight() {
        CoilSlits x = withCoils("99g0;99g0;9g1;99g0");
        x.set(1, 0);
        x.order(0, 0, 20, 1, 1);
        x.order(1, 0, 5, 2, 99);
        x.order(0, 0, 20, 1, 50);
        x.order(1, 0, 5, 2, 99);
        x.order(0, 0, 20, 1, 99);
        x.order(0, 0, 20, 1, 99);
        x.order(1, 0, 3, 4, 98);
        x.order(0, 0, 20, 1, 98);
        // Order 1 is not done, and its rest of 4 is scrap, so that 3 and 6 get nothing.
        same("serveAll()", 5, x.serveAll());
        sameOrder(x, 0, 1, 1, 0, 5, 1, 99);
        sameOrder(x, 1, 3, 1, 0, 5, 2, 99);
        sameOrder(x, 2, 6, 1, 0, 3, 4, 98);
        sameCounts(x, 3, 3, 0, 0, 6, 105, 0);
        CoilSlits y = withCoils("199g0");
        for (int i = 0; i < 8; i++) {
            y.order(0, 0, 9, 2, 99 - i);
        }
        same("eight are done", 8, y.serveAll());
        same("coil(8, 0), the rest of all rests", 39, y.coil(8, 0));
    }

    // ---- promise 11

    private static void set() {
        CoilSlits x = new CoilSlits();
        int[] first = {20, 1, 1, 0};
        int[] least = {1, 0, 0, 0};
        int[] most = {100, 5, 9, 2};
        for (int i = 0; i < 4; i++) {
            int setting = i;
            x.set(setting, most[setting]);
            x.undo();
            undoable(x, "set to the least", first[i], () -> x.set(setting, least[setting]));
            same("setting(" + i + ")", least[i], x.setting(i));
            refuses(x, "below", ARGUMENT, () -> x.set(setting, least[setting] - 1));
            refuses(x, "above", ARGUMENT, () -> x.set(setting, most[setting] + 1));
            same("set to the most", least[i], x.set(i, most[i]));
            same("setting(" + i + ")", most[i], x.setting(i));
            x.undo();
        }
        refuses(x, "set(4, 0)", INDEX, () -> x.set(4, 0));
        refuses(x, "set(-1, 1000)", INDEX, () -> x.set(-1, 1000));
        undoable(x, "set to the same", 0, () -> x.set(3, 0));
    }

    // ---- promises 12 to 15

    private static void append() {
        CoilSlits x = new CoilSlits();
        same("append(33)", 1, x.append(33));
        same("append(126)", 2, x.append(126));
        refuses(x, "append(32)", ARGUMENT, () -> x.append(32));
        refuses(x, "append(127)", ARGUMENT, () -> x.append(127));
        refuses(x, "append(-1)", ARGUMENT, () -> x.append(-1));
        same("nothing is saved", 0, x.count(13));
        for (int i = 3; i <= 60; i++) {
            same("append", i, x.append('9'));
        }
        refuses(x, "the 61st character", STATE, () -> x.append('9'));
        refuses(x, "the 61st, out of range", ARGUMENT, () -> x.append(32));
        same("clearBuffer()", 60, x.clearBuffer());
    }

    private static void clearBuffer() {
        CoilSlits x = typed("12g");
        same("clearBuffer()", 3, x.clearBuffer());
        same("clearBuffer(), again", 0, x.clearBuffer());
        same("nothing is saved", 0, x.count(13));
        same("append", 1, x.append('7'));
        same("firstError()", 1, x.firstError());
    }

    private static void firstError() {
        sameError(0, "", "0", "g", ";", "x", "q", "s", "01g0");
        sameError(1, "1", "2", "9", "1;", "2q", "9s0", "1x");
        sameError(2, "20", "19", "1g", "10;", "1gg", "1g4", "1g9q", "1g;");
        sameError(2, "201g0", "999", "210");
        sameError(3, "200", "199", "1000g0", "2000", "1g0", "1g0g", "1g00", "1g0x", "1g01");
        sameError(4, "200g", "1g0;", "1g0q", "1g0s", "1g0;0", "1g0;;", "1g0;g");
        sameError(4, "1g0qq", "1g0q;", "1g0s6", "1g0s9", "1g0sq", "1g0s;");
        sameError(5, "1g0q0", "1g0q9", "1g0s0", "1g0s5", "1g0q5q", "1g0q55", "1g0s5q", "1g0s5s", "1g0s55");
        sameError(5, "200g3", "1g0;2");
        sameError(7, "1g0q9s5", "1g0q9s5q", "1g0q9s5s", "1g0q9s55", "1g0;2g1");
        sameError(8, "1g0q9s5;", "1g0q9s5;;");
        StringBuilder full = new StringBuilder();
        for (int i = 0; i < 15; i++) {
            full.append("1g0;");
        }
        sameError(60, full.toString());
    }

    private static void sameError(int due, String... texts) {
        for (String text : texts) {
            CoilSlits x = typed(text);
            long before = x.digest();
            same("firstError() of " + text, due, x.firstError());
            same("firstError() of " + text + ", the digest", before, x.digest());
        }
    }

    private static void receiveAll() {
        CoilSlits x = typed("200g3q0s5;1g0;77g2s0;50g1q9");
        long before = x.digest();
        same("receiveAll()", 4, x.receiveAll());
        sameCoil(x, 0, 200, 3, 0, 5, 0, 0);
        sameCoil(x, 1, 1, 0, 5, 0, 1, 0);
        sameCoil(x, 2, 77, 2, 5, 0, 0, 0);
        sameCoil(x, 3, 50, 1, 9, 1, 0, 0);
        sameCounts(x, 11, 328, 0, 1);
        same("the buffer is empty", 0, x.clearBuffer());
        same("undo()", 0, x.undo());
        same("count(0)", 0, x.count(0));
        same("the buffer stays empty", 0, x.clearBuffer());
        type(x, "200g3q0s5;1g0;77g2s0;50g1q9");
        same("as at first", before, x.digest());
    }

    private static void receiveAllBehindLonger() {
        CoilSlits x = typed("5g0;;");
        x.clearBuffer();
        type(x, "5g0");
        same("nothing of the longer buffer is read", 1, x.receiveAll());
    }

    private static void receiveAllFull() {
        CoilSlits x = withHeights(4, 5, 5, 5, 5, 4);
        type(x, "9g0s5;8g1;7g2;6g3");
        same("receiveAll()", 2, x.receiveAll());
        sameCoil(x, 28, 9, 0, 5, 5, 0, 0);
        sameCoil(x, 29, 8, 1, 5, 0, 0, 0);
        same("the buffer is empty", 0, x.clearBuffer());
        same("count(0)", 30, x.count(0));
        type(x, "9g0");
        long before = x.count(13);
        same("receiveAll(), none", 0, x.receiveAll());
        same("saved, too", Math.min(before + 1, 6), x.count(13));
        same("the buffer is empty", 0, x.clearBuffer());
        CoilSlits y = withHeights(5);
        x.undo();
        type(y, "9g0s1;8g0s0;7g0s2");
        same("up to the full stack", 1, y.receiveAll());
        same("count(0)", 6, y.count(0));
        same("the next number", 6, y.receive(1, 0, 0, 3));
        CoilSlits z = withHeights(5);
        type(z, "8g0s0");
        int kept = z.count(13);
        same("none of one", 0, z.receiveAll());
        same("saved states", kept + 1, z.count(13));
    }

    private static void receiveAllRefuses() {
        for (String text : new String[] {"", "5", "5g", "5g0;", "5g0q", "5g0s", "5g0;7", "5g4", "5g0;;5g0", "0", "5g0x"}) {
            CoilSlits x = typed(text);
            refuses(x, "receiveAll() of " + text, ARGUMENT, () -> x.receiveAll());
            same("the buffer of " + text, text.length(), x.clearBuffer());
        }
    }

    // ---- promise 16

    private static void undo() {
        CoilSlits x = new CoilSlits();
        long[] digests = new long[9];
        for (int i = 0; i < 9; i++) {
            x.receive(10 + i, 0, 0, i / 5);
            digests[i] = x.count(1);
        }
        same("count(13)", 6, x.count(13));
        for (int i = 0; i < 6; i++) {
            same("undo()", 5 - i, x.undo());
            same("count(1)", digests[7 - i], x.count(1));
        }
        refuses(x, "undo()", STATE, () -> x.undo());
        same("three are left", 3, x.count(0));
        same("the number is free again", 3, x.receive(1, 0, 0, 0));
        same("undo()", 0, x.undo());
        refuses(x, "no coil has had this number", INDEX, () -> x.coil(3, 0));
    }

    private static void undoAll() {
        CoilSlits x = withCoils("100g0q5;100g1q5s0");
        x.order(0, 0, 20, 9, 5);
        x.order(0, 0, 20, 9, 5);
        x.undo();
        long before = x.digest();
        same("slit(0, 0)", 4, x.slit(0, 0));
        type(x, "ab");
        same("undo()", 2, x.undo());
        same("the buffer stays", 2, x.clearBuffer());
        same("all else is as before", before, x.digest());
        same("the next order's number", 1, x.order(0, 0, 2, 1, 1));
        x.undo();
        same("dig(1) changes nothing", 0, x.dig(1));
        same("but is saved", 3, x.count(13));
        same("undo()", 2, x.undo());
    }

    // ---- promises 17 to 22

    private static void at() {
        CoilSlits x = withHeights(0, 5, 0, 0, 0, 2);
        sameStack(x, 0);
        sameStack(x, 1, 0, 1, 2, 3, 4);
        sameStack(x, 5, 5, 6);
        refuses(x, "at(-1, 0)", INDEX, () -> x.at(-1, 0));
        refuses(x, "at(6, 5)", INDEX, () -> x.at(6, 5));
        refuses(x, "at(0, -1)", ARGUMENT, () -> x.at(0, -1));
        refuses(x, "at(0, 5)", ARGUMENT, () -> x.at(0, 5));
        refuses(x, "at(1, most)", ARGUMENT, () -> x.at(1, Integer.MAX_VALUE));
    }

    private static void coil() {
        CoilSlits x = withCoils("120g2q7s3;90g0q0s3;30g1s3;31g1s2");
        sameCoil(x, 0, 120, 2, 7, 3, 2, 0);
        sameCoil(x, 1, 90, 0, 0, 3, 1, 0);
        sameCoil(x, 2, 30, 1, 5, 3, 0, 0);
        x.order(1, 5, 9, 1, 1);
        x.slit(0, 2);
        sameCoil(x, 4, 20, 1, 4, 3, 0, 1);
        sameCoil(x, 2, NONE, NONE, NONE, NONE, NONE, NONE);
        refuses(x, "coil(5, 6)", INDEX, () -> x.coil(5, 6));
        refuses(x, "coil(-1, 0)", INDEX, () -> x.coil(-1, 0));
        refuses(x, "coil(0, -1)", ARGUMENT, () -> x.coil(0, -1));
        refuses(x, "coil(0, 6)", ARGUMENT, () -> x.coil(0, 6));
        refuses(x, "coil(2, 6), a coil that is gone", ARGUMENT, () -> x.coil(2, 6));
    }

    private static void orderOf() {
        CoilSlits x = new CoilSlits();
        for (int i = 0; i < 30; i++) {
            x.receive(62, i < 28 ? 1 : 0, i == 27 ? 3 : 4, i / 5);
        }
        x.order(1, 4, 30, 2, 9);
        x.order(0, 5, 61, 3, 8);
        x.order(0, 4, 61, 3, 7);
        x.order(0, 4, 62, 3, 6);
        sameOrder(x, 0, 0, 1, 4, 30, 2, 9, 27, 54);
        sameOrder(x, 1, 1, 0, 5, 61, 3, 8, 0, 0);
        sameOrder(x, 2, 2, 0, 4, 61, 3, 7, 2, 2);
        sameOrder(x, 3, 3, 0, 4, 62, 3, 6, 0, 0);
        x.set(1, 2);
        sameOrder(x, 0, 0, 1, 4, 30, 2, 9, 27, 27);
        x.cancel(1);
        sameOrder(x, 1, 2, 0, 4, 61, 3, 7, 0, 0);
        sameOrder(x, 3, NONE, NONE, NONE, NONE, NONE, NONE, NONE, NONE);
        same("orderOf(most, 7)", NONE, x.orderOf(Integer.MAX_VALUE, 7));
        refuses(x, "orderOf(-1, 0)", ARGUMENT, () -> x.orderOf(-1, 0));
        refuses(x, "orderOf(0, -1)", ARGUMENT, () -> x.orderOf(0, -1));
        refuses(x, "orderOf(0, 8)", ARGUMENT, () -> x.orderOf(0, 8));
        refuses(x, "orderOf(99, 8)", ARGUMENT, () -> x.orderOf(99, 8));
    }

    private static void whyNot() {
        CoilSlits x = withHeights(5, 5, 5, 5, 5, 3);
        x.receive(20, 1, 2, 5);
        x.order(0, 5, 49, 1, 1);
        x.order(0, 6, 60, 1, 1);
        x.order(1, 2, 20, 1, 1);
        x.order(0, 5, 50, 1, 1);
        same("all well", 0, x.whyNot(0, 3));
        same("cannot be dug out", 4, x.whyNot(0, 2));
        same("grade before quality and width", 1, x.whyNot(1, 28));
        same("quality before width", 2, x.whyNot(1, 4));
        same("no strip fits, and none could be dug", 3, x.whyNot(3, 0));
        same("no strip fits for what is lost", 3, x.whyNot(2, 28));
        x.set(1, 0);
        same("nothing is lost", 0, x.whyNot(2, 28));
        refuses(x, "no such order", INDEX, () -> x.whyNot(4, 0));
        refuses(x, "order -1", INDEX, () -> x.whyNot(-1, 0));
        refuses(x, "no such coil", INDEX, () -> x.whyNot(0, 29));
        refuses(x, "coil -1", INDEX, () -> x.whyNot(0, -1));
    }

    private static void count() {
        CoilSlits x = withCoils("200g0q9s0;150g0s0;60g1s1;99g2s1");
        x.order(0, 0, 50, 3, 10);
        x.order(0, 6, 33, 2, 20);
        x.move(1, 4);
        same("sendAway(2)", 60, x.sendAway(2));
        same("slit(1, 0)", 2, x.slit(1, 0));
        // 200 - 2 * 34 = 132 goes back; coil 1 went from stack 0 to stack 1.
        same("slit(0, 1)", 2, x.slit(0, 1));
        // 150 - 2 * 51 = 48 goes back to stack 1.
        sameCounts(x, 0, 3, 279, 2, 1, 2, 4, 4, 166, 4, 0, 60, 509, 60, 6);
        x.set(0, 100);
        same("serve(0)", 1, x.serve(0));
        // 132 - 51 = 81 is scrap.
        sameCounts(x, 0, 2, 147, 1, 0, 2, 4, 5, 216, 5, 81, 70, 509, 60, 6);
        same("the widths add up", x.count(11), x.count(1) + x.count(7) + x.count(8) + x.count(9) + x.count(12));
        refuses(x, "count(-1)", ARGUMENT, () -> x.count(-1));
        refuses(x, "count(14)", ARGUMENT, () -> x.count(14));
    }

    private static void setting() {
        CoilSlits x = new CoilSlits();
        x.set(0, 44);
        x.set(1, 3);
        x.set(2, 8);
        x.set(3, 2);
        same("setting(0)", 44, x.setting(0));
        same("setting(1)", 3, x.setting(1));
        same("setting(2)", 8, x.setting(2));
        same("setting(3)", 2, x.setting(3));
        refuses(x, "setting(-1)", INDEX, () -> x.setting(-1));
        refuses(x, "setting(4)", INDEX, () -> x.setting(4));
    }

    // ---- promises 23 to 28

    private static void choice() {
        CoilSlits x = withCoils("70g0q3s0;20g1s0;62g0q9s1;40g0q5s2;40g0q3s3");
        x.order(0, 0, 30, 2, 1);
        x.order(2, 0, 30, 2, 1);
        long before = x.digest();
        // Rests with two strips of 31: 8, 0, 9, 9.
        same("rule 0", 2, x.choice(0));
        same("none suits", NONE, x.choice(1));
        same("nothing is changed", before, x.digest());
        x.set(3, 1);
        same("rule 1", 2, x.choice(0));
        x.set(3, 2);
        same("rule 2", 0, x.choice(0));
        x.move(0, 5);
        x.move(2, 5);
        x.move(5, 2);
        x.set(3, 1);
        same("rule 1 takes the lowest number", 0, x.choice(0));
        x.cancel(0);
        x.order(0, 0, 30, 1, 1);
        x.set(3, 0);
        // Rests with one strip: 39, 31, 9, 9.
        same("rule 0 goes by what is still to be cut", 3, x.choice(2));
        CoilSlits y = withCoils("45g0s0;45g0s1;45g0s2");
        y.order(0, 0, 30, 1, 1);
        y.move(0, 5);
        same("the lowest number in the last stack", 0, y.choice(0));
        y.sendAway(0);
        y.receive(33, 0, 5, 5);
        same("the least rest in the last stack", 3, y.choice(0));
        CoilSlits z = withCoils("46g0s0;45g0s1;45g0s2");
        z.order(0, 0, 30, 1, 1);
        z.move(0, 5);
        same("not the lowest number with a greater rest", 1, z.choice(0));
        refuses(x, "choice(0), gone", INDEX, () -> x.choice(0));
        refuses(x, "choice(-1)", INDEX, () -> x.choice(-1));
        refuses(x, "choice(3)", INDEX, () -> x.choice(3));
    }

    private static void ifServed() {
        CoilSlits x = withCoils("40g0q5s0;20g1s0;45g0q9s1;99g0q7s2;20g1s2;20g1s2");
        x.order(0, 0, 30, 2, 1);
        x.set(3, 1);
        // Coil 0 first, and what lay on it goes to stack 3; then coil 2.
        sameGains(x, 0, 2, 1, 23, 3);
        // Coil 2 first, and nothing of it goes back to stack 1; then coil 0.
        sameGains(x, 1, 2, 1, 23, 1);
        // Coil 0 first; then coil 3, which lies under two: they go to the stacks 0 and 4.
        sameGains(x, 2, 2, 3, 9, 7);
        refuses(x, "no such order", INDEX, () -> x.ifServed(1, 3, 4));
        refuses(x, "order -1", INDEX, () -> x.ifServed(-1, 0, 0));
        refuses(x, "rule -1", ARGUMENT, () -> x.ifServed(0, -1, 0));
        refuses(x, "rule 3", ARGUMENT, () -> x.ifServed(0, 3, 0));
        refuses(x, "what -1", ARGUMENT, () -> x.ifServed(0, 0, -1));
        refuses(x, "what 4", ARGUMENT, () -> x.ifServed(0, 0, 4));
        // What was counted before is no part of it.
        x.move(0, 5);
        x.order(1, 0, 10, 1, 1);
        x.slit(1, 1);
        sameGains(x, 0, 2, 0, 23, 0);
    }

    private static void sameGains(CoilSlits x, int rule, int... due) {
        long before = x.digest();
        for (int what = 0; what < due.length; what++) {
            same("ifServed(0, " + rule + ", " + what + ")", due[what], x.ifServed(0, rule, what));
        }
        same("ifServed changes nothing", before, x.digest());
    }

    private static void bestRule() {
        // By quality the poor coil goes to the order that asks for little.
        CoilSlits prices = withCoils("60g0q9s0;60g0q0s1");
        prices.order(0, 0, 50, 1, 10);
        prices.order(0, 5, 50, 1, 5);
        sameBest("greatest prices", 2, prices);
        // By quality the wide coil is cut, and its rest goes back; else 10 are scrap.
        CoilSlits scrap = withCoils("76g0q3s0;9g1s0;61g0q5s1");
        scrap.order(0, 0, 50, 1, 10);
        sameBest("least scrap", 2, scrap);
        // Rules 0 and 2 dig.
        CoilSlits ways = withCoils("60g0q3s0;9g1s0;60g0q5s1");
        ways.order(0, 0, 50, 1, 10);
        sameBest("least ways", 1, ways);
        // Rule 1 digs nothing, but prices and scrap come first.
        CoilSlits dear = withCoils("60g0q3s0;9g1s0;70g0q5s1");
        dear.order(0, 0, 50, 1, 10);
        sameBest("scrap before ways", 0, dear);
        CoilSlits alike = withCoils("60g0");
        alike.order(0, 0, 50, 1, 10);
        alike.set(3, 2);
        sameBest("the lowest", 0, alike);
    }

    private static void sameBest(String what, int due, CoilSlits x) {
        long before = x.digest();
        same(what, due, x.bestRule());
        same(what + ": nothing is changed", before, x.digest());
    }

    private static void bestStack() {
        CoilSlits x = withCoils("50g0s0;40g0s0;45g0s1;9g0s2;9g0s2;8g0s3;10g0s4");
        x.receive(30, 0, 0, 5);
        long before = x.digest();
        same("the fewest coils of those with none wider", 1, x.bestStack());
        same("nothing is changed", before, x.digest());
        x.receive(44, 0, 0, 1);
        x.receive(7, 0, 0, 3);
        same("stack 4", 4, x.bestStack());
        x.receive(10, 0, 0, 4);
        same("stack 5", 5, x.bestStack());
        x.receive(29, 0, 0, 5);
        same("an equal width is not greater", 2, x.bestStack());
        CoilSlits w = withCoils("9g0s0;8g0s0;7g0s0;9g0s1;8g0s1;9g0s2;7g0s2;9g0s2;8g0s2");
        type(w, "9g0s3;9g0s3;8g0s3;9g0s4;9g0s4;8g0s4;9g0s5;9g0s5;8g0s5");
        w.receiveAll();
        same("one is wider, of two", 1, w.bestStack());
        w.receive(7, 0, 0, 1);
        same("two are wider than the top, whatever the lower ones are", 0, w.bestStack());
        w.receive(9, 0, 0, 3);
        same("none is wider, of four", 3, w.bestStack());
        CoilSlits y = withHeights(5, 5, 5, 5, 5, 4);
        y.receive(9, 0, 0, 5);
        same("no room", NONE, y.bestStack());
        y.sendAway(4);
        same("the stack with room now", 0, y.bestStack());
        y.move(5, 0);
        same("none is wider in stack 5, that has room now", 5, y.bestStack());
        CoilSlits z = withHeights(5, 5, 5, 5, 5, 3);
        z.receive(9, 0, 0, 5);
        same("the only one with room", 5, z.bestStack());
    }

    private static void used() {
        CoilSlits x = withCoils("50g0;100g0q9");
        x.order(0, 0, 30, 1, 1);
        x.order(0, 0, 33, 2, 1);
        sameShare("nothing is cut", 1.0, x.used());
        x.slit(0, 0);
        sameShare("scrap 19", 30.0 / 50.0, x.used());
        x.slit(1, 1);
        sameShare("a rest goes back", 96.0 / 118.0, x.used());
        x.undo();
        sameShare("undone", 0.6, x.used());
        CoilSlits y = withCoils("60g0");
        y.set(1, 0);
        y.order(0, 0, 30, 2, 1);
        y.serveAll();
        sameShare("all is used", 1.0, y.used());
        CoilSlits z = withCoils("198g0");
        z.set(0, 100);
        z.set(1, 5);
        z.order(0, 0, 100, 1, 1);
        z.serveAll();
        sameShare("scrap 93", 100.0 / 198.0, z.used());
    }

    private static void digest() {
        CoilSlits x = new CoilSlits();
        sameDigest(x, "");
        type(x, "50g0q4;60g1s0;100g0q9;~!");
        sameDigest(x, "50g0q4;60g1s0;100g0q9;~!");
        x.clearBuffer();
        type(x, "50g0q4;60g1s0;100g0q9;77g2s5");
        x.receiveAll();
        x.order(0, 2, 30, 3, 7);
        x.order(1, 0, 20, 40, 9);
        x.order(3, 0, 20, 40, 9);
        x.set(3, 2);
        sameDigest(x, "");
        x.slit(0, 0);
        type(x, "9");
        sameDigest(x, "9");
        x.serveAll();
        x.sendAway(3);
        sameDigest(x, "9");
        x.undo();
        sameDigest(x, "9");
    }
}
