/** The promises of ../shared/DOC.md once more, at the edges that their own sentences name. */
public final class EdgeTests extends Checks {
    private static final int LEAST = Integer.MIN_VALUE;
    private static final int MOST = Integer.MAX_VALUE;

    public static void main(String[] args) {
        coils();
        orders();
        texts();
        looks();
        whatWouldBe();
        finish();
    }

    // ---- promises 1 to 5

    private static void coils() {
        test("promise 1: objects have nothing in common", EdgeTests::objectsApart);
        test("promise 2: receive, any other argument out of range", EdgeTests::receiveRanges);
        test("promise 2: receive returns its number, on top of the stack", EdgeTests::receiveOnTop);
        test("promise 3: move, each pair of stacks", EdgeTests::movePairs);
        test("promise 3: move, the last coil of a stack, and the last place of another", EdgeTests::moveLast);
        test("promise 4: dig returns 0 to 4", EdgeTests::digReturns);
        test("promise 4: dig, coils that are not in the yard", EdgeTests::digNone);
        test("promise 5: sendAway returns its width, 1 to 200", EdgeTests::sendAwayWidths);
        test("promise 5: sendAway digs first, with just enough room", EdgeTests::sendAwayDigs);
        test("promise 5: sendAway, coils that are not in the yard", EdgeTests::sendAwayNone);
        test("promise 5: sendAway of a rest", EdgeTests::sendAwayRest);
    }

    private static void objectsApart() {
        CoilSlits x = withCoils("50g0");
        x.order(0, 0, 30, 1, 1);
        x.set(0, 77);
        type(x, "9g");
        long fresh = new CoilSlits().digest();
        CoilSlits y = new CoilSlits();
        same("no coil", 0, y.count(0));
        same("no order", 0, y.count(3));
        same("no saved state", 0, y.count(13));
        same("setting(0)", 20, y.setting(0));
        same("no character", 0, y.clearBuffer());
        same("the digest of each new object", fresh, y.digest());
        same("the number of its first coil", 0, y.receive(9, 0, 0, 0));
        same("x has one coil still", 1, x.count(0));
    }

    private static void receiveRanges() {
        CoilSlits x = new CoilSlits();
        int[] least = {1, 0, 0};
        int[] most = {200, 3, 9};
        for (int i = 0; i < 3; i++) {
            for (int bad : new int[] {least[i] - 1, most[i] + 1, LEAST, MOST}) {
                int[] a = least.clone();
                a[i] = bad;
                refuses(x, "argument " + i + " as " + bad, ARGUMENT, () -> x.receive(a[0], a[1], a[2], 0));
                refuses(x, "and stack 6", INDEX, () -> x.receive(a[0], a[1], a[2], 6));
            }
        }
        for (int bad : new int[] {-1, 6, LEAST, MOST}) {
            refuses(x, "stack " + bad, INDEX, () -> x.receive(9, 0, 0, bad));
        }
        same("the first number still", 0, x.receive(9, 0, 0, 0));
    }

    private static void receiveOnTop() {
        CoilSlits x = new CoilSlits();
        for (int i = 0; i < 30; i++) {
            same("receive", i, x.receive(i + 1, i % 4, i % 10, i % 6));
            sameCoil(x, i, i + 1, i % 4, i % 10, i % 6, 0, 0);
            same("at", i, x.at(i % 6, i / 6));
        }
        sameCounts(x, 0, 30, 465, 0, 0, 0, 0, 0, 0, 0, 0, 0, 465, 0, 6);
    }

    private static void movePairs() {
        for (int pair = 0; pair < 36; pair++) {
            int from = pair / 6;
            int to = pair % 6;
            CoilSlits x = withHeights(1, 1, 1, 1, 1, 1);
            if (from == to) {
                refuses(x, "move to itself", ARGUMENT, () -> x.move(from, to));
            } else {
                same("move", from, x.move(from, to));
                sameStack(x, from);
                sameStack(x, to, to, from);
                sameCounts(x, 4, 1, Math.abs(from - to));
            }
        }
        for (int bad : new int[] {-1, 6, LEAST, MOST}) {
            CoilSlits x = withHeights(1, 1, 1, 1, 1, 1);
            refuses(x, "from " + bad, INDEX, () -> x.move(bad, 0));
            refuses(x, "to " + bad, INDEX, () -> x.move(0, bad));
            refuses(x, "from and to " + bad, INDEX, () -> x.move(bad, bad));
        }
    }

    private static void moveLast() {
        CoilSlits x = withHeights(1, 4);
        same("the last coil to the last place", 0, x.move(0, 1));
        refuses(x, "stack 0 is empty", STATE, () -> x.move(0, 2));
        refuses(x, "stack 0 is empty, stack 1 full", STATE, () -> x.move(0, 1));
        same("back", 0, x.move(1, 0));
        sameStack(x, 1, 1, 2, 3, 4);
        same("the same again", 0, x.move(0, 1));
        sameCounts(x, 4, 3, 3);
    }

    private static void digReturns() {
        for (int above = 0; above < 5; above++) {
            int coil = 4 - above;
            CoilSlits x = withHeights(5);
            undoable(x, "dig with " + above + " above", above, () -> x.dig(coil));
            same("none above", 0, x.coil(coil, 4));
            same("moves", above, x.count(4));
            same("dig again", 0, x.dig(coil));
            same("no more moves", above, x.count(4));
        }
    }

    private static void digNone() {
        CoilSlits x = withHeights(1, 1);
        for (int bad : new int[] {-1, 2, LEAST, MOST}) {
            refuses(x, "dig(" + bad + ")", INDEX, () -> x.dig(bad));
        }
        x.sendAway(0);
        refuses(x, "a coil that was sent away", INDEX, () -> x.dig(0));
        x.order(0, 0, 30, 1, 1);
        x.slit(0, 1);
        refuses(x, "a coil that was slit", INDEX, () -> x.dig(1));
        refuses(new CoilSlits(), "an empty yard", INDEX, () -> new CoilSlits().dig(0));
    }

    private static void sendAwayWidths() {
        CoilSlits x = withCoils("1g0s0;200g0s0");
        same("sendAway(1)", 200, x.sendAway(1));
        same("sendAway(0)", 1, x.sendAway(0));
        sameCounts(x, 0, 0, 0, 0, 0, 0, 0, 0, 0, 0, 0, 0, 201, 201);
        sameStack(x, 0);
        same("the stack has room for five", 2, x.receive(9, 0, 0, 0));
    }

    private static void sendAwayDigs() {
        CoilSlits x = withHeights(5, 5, 5, 4, 5, 5);
        refuses(x, "two above, room for one", STATE, () -> x.sendAway(2));
        same("one above, room for one", 50, x.sendAway(3));
        sameStack(x, 0, 0, 1, 2);
        sameStack(x, 3, 15, 16, 17, 18, 4);
        sameCounts(x, 0, 28, 1400, 0, 0, 1, 3);
    }

    private static void sendAwayNone() {
        CoilSlits x = withHeights(1);
        for (int bad : new int[] {-1, 1, LEAST, MOST}) {
            refuses(x, "sendAway(" + bad + ")", INDEX, () -> x.sendAway(bad));
        }
        x.sendAway(0);
        refuses(x, "a coil that is gone", INDEX, () -> x.sendAway(0));
    }

    private static void sendAwayRest() {
        CoilSlits x = withCoils("100g0");
        x.order(0, 0, 30, 1, 1);
        x.slit(0, 0);
        same("sendAway(1)", 69, x.sendAway(1));
        sameCounts(x, 0, 0, 0, 0, 0, 0, 0, 1, 30, 1, 0, 1, 100, 69);
    }

    // ---- promises 6 to 11

    private static void orders() {
        test("promise 6: order returns its number, the last by number", EdgeTests::orderLast);
        test("promise 7: cancel, the first, one between, the last", EdgeTests::cancelEach);
        test("promise 7: cancel, orders that there are not", EdgeTests::cancelNone);
        test("promise 8: slit returns 1 to 40", EdgeTests::slitReturns);
        test("promise 8: slit, orders and coils that there are not", EdgeTests::slitNone);
        test("promise 8: slit refuses each of the four reasons", EdgeTests::slitReasons);
        test("promise 8: slit with just enough room to dig, and one place too few", EdgeTests::slitRoom);
        test("promise 9: serve returns 0 to 40", EdgeTests::serveReturns);
        test("promise 9: serve, orders that there are not", EdgeTests::serveNone);
        test("promise 9: serve by rule 1 prefers what it need not dig", EdgeTests::serveDigsLast);
        test("promise 10: serveAll, greater prices first", EdgeTests::pricesFirst);
        test("promise 10: serveAll, of equal prices lower numbers first", EdgeTests::numbersFirst);
        test("promise 10: serveAll returns how many are done, not how many are served", EdgeTests::doneByIt);
        test("promise 10: serveAll passes over an order that cannot be served", EdgeTests::passesOver);
        test("promise 11: set returns the previous value", EdgeTests::setReturns);
    }

    private static void orderLast() {
        CoilSlits x = new CoilSlits();
        for (int i = 0; i < 8; i++) {
            same("order", i, x.order(i % 4, i, 10 + i, 1 + i, 9 + i));
            sameOrder(x, i, i, i % 4, i, 10 + i, 1 + i, 9 + i, 0, 0);
        }
        sameOrder(x, 0, 0, 0, 0, 10, 1, 9);
        same("place 8", NONE, x.orderOf(8, 0));
        same("count(3)", 8, x.count(3));
    }

    private static void cancelEach() {
        int[][] left = {{1, 2, 3, 4, 5, 6, 7}, {0, 1, 2, 4, 5, 6, 7}, {0, 1, 2, 3, 4, 5, 6}};
        int[] gone = {0, 3, 7};
        for (int i = 0; i < 3; i++) {
            CoilSlits x = new CoilSlits();
            for (int k = 0; k < 8; k++) {
                x.order(0, 0, 10, k == 7 ? 40 : k + 1, 1);
            }
            same("cancel", gone[i] == 7 ? 40 : gone[i] + 1, x.cancel(gone[i]));
            for (int place = 0; place < 7; place++) {
                same("orderOf", left[i][place], x.orderOf(place, 0));
            }
            same("orderOf(7, 0)", NONE, x.orderOf(7, 0));
            same("the next number", 8, x.order(0, 0, 10, 1, 1));
        }
    }

    private static void cancelNone() {
        CoilSlits x = new CoilSlits();
        refuses(x, "no orders", INDEX, () -> x.cancel(0));
        x.order(0, 0, 10, 1, 1);
        for (int bad : new int[] {-1, 1, LEAST, MOST}) {
            refuses(x, "cancel(" + bad + ")", INDEX, () -> x.cancel(bad));
        }
        x.cancel(0);
        refuses(x, "an order that is gone", INDEX, () -> x.cancel(0));
    }

    private static void slitReturns() {
        for (int strips = 1; strips <= 40; strips++) {
            CoilSlits x = withCoils("200g0");
            x.set(1, 0);
            x.order(0, 0, 5, strips, 2);
            same("slit for " + strips, strips, x.slit(0, 0));
            int rest = 200 - 5 * strips;
            boolean back = rest >= 20;
            sameCounts(x, 0, back ? 1 : 0, back ? rest : 0, back ? 1 : 0, 0, 0, 0, strips, 5 * strips, 0,
                    back ? 0 : rest, 2 * strips, 200, 0);
        }
    }

    private static void slitNone() {
        CoilSlits x = withCoils("100g0;100g0");
        x.order(0, 0, 30, 9, 1);
        for (int bad : new int[] {-1, 1, LEAST, MOST}) {
            refuses(x, "order " + bad, INDEX, () -> x.slit(bad, 0));
            refuses(x, "coil " + bad, INDEX, () -> x.slit(0, bad == 1 ? 2 : bad));
        }
        x.slit(0, 0);
        refuses(x, "a coil that was slit", INDEX, () -> x.slit(0, 0));
        x.cancel(0);
        refuses(x, "an order that was cancelled", INDEX, () -> x.slit(0, 1));
    }

    private static void slitReasons() {
        CoilSlits x = withCoils("50g1q5;50g0q4;30g0q5;31g0q5");
        x.order(0, 5, 30, 1, 1);
        refuses(x, "another grade", STATE, () -> x.slit(0, 0));
        refuses(x, "too little quality", STATE, () -> x.slit(0, 1));
        refuses(x, "no strip fits", STATE, () -> x.slit(0, 2));
        same("it suits", 1, x.slit(0, 3));
        CoilSlits y = withHeights(5, 5, 5, 5, 5, 5);
        y.order(0, 5, 30, 1, 1);
        refuses(y, "cannot be dug out", STATE, () -> y.slit(0, 28));
        same("it need not be dug out", 1, y.slit(0, 29));
    }

    private static void slitRoom() {
        CoilSlits x = withHeights(5, 5, 3, 5, 5, 5);
        x.order(0, 5, 9, 1, 1);
        refuses(x, "three above, room for two", STATE, () -> x.slit(0, 1));
        same("two above, room for two", 1, x.slit(0, 2));
        sameStack(x, 0, 0, 1, 28);
        sameStack(x, 2, 10, 11, 12, 4, 3);
    }

    private static void serveReturns() {
        CoilSlits x = withCoils("200g0s0;200g0s1;200g0s2;30g0s3");
        x.set(1, 0);
        x.order(0, 0, 14, 40, 1);
        x.order(1, 0, 14, 40, 1);
        same("none of grade 1", 0, x.serve(1));
        // 30 = 2 * 14 + 2, then three times 200 = 14 * 14 + 4, of which the last one is cut ten times.
        same("40 of four coils", 40, x.serve(0));
        sameCounts(x, 0, 1, 60, 1, 1, 0, 0, 40, 560, 0, 10, 40);
        same("the rest of the third coil", 60, x.coil(4, 0));
    }

    private static void serveNone() {
        CoilSlits x = withCoils("100g0");
        refuses(x, "no orders", INDEX, () -> x.serve(0));
        x.order(0, 0, 30, 1, 1);
        for (int bad : new int[] {-1, 1, LEAST, MOST}) {
            refuses(x, "serve(" + bad + ")", INDEX, () -> x.serve(bad));
        }
        x.serve(0);
        refuses(x, "an order that is done", INDEX, () -> x.serve(0));
    }

    private static void serveDigsLast() {
        CoilSlits x = withCoils("31g0s0;31g1s0;31g1s0;31g0s1;31g1s1;31g0s2");
        x.set(3, 1);
        x.order(0, 0, 30, 3, 1);
        same("serve(0)", 3, x.serve(0));
        // 5 first; then 3, for which 4 goes to stack 2; then 0, for which 2 and 1 go to stacks 1 and 3.
        sameStack(x, 0);
        sameStack(x, 1, 2);
        sameStack(x, 2, 4);
        sameStack(x, 3, 1);
        sameCounts(x, 4, 3, 5);
    }

    private static void pricesFirst() {
        CoilSlits x = withCoils("31g0s0;31g0s1;31g0s2");
        int[] prices = {1, 99, 50, 98, 2};
        for (int price : prices) {
            x.order(0, 0, 30, 1, price);
        }
        same("three are done", 3, x.serveAll());
        same("the prices", 99 + 98 + 50, x.count(10));
        same("price 1 is left", 0, x.orderOf(0, 0));
        same("price 2 is left", 4, x.orderOf(1, 0));
        same("coils are left", 0, x.count(0));
    }

    private static void numbersFirst() {
        CoilSlits x = withCoils("31g0s0;31g0s1");
        for (int i = 0; i < 4; i++) {
            x.order(0, 0, 30, 1, 7);
        }
        x.cancel(0);
        x.order(0, 0, 30, 1, 7);
        same("two are done", 2, x.serveAll());
        same("order 3 is left", 3, x.orderOf(0, 0));
        same("order 4 is left", 4, x.orderOf(1, 0));
    }

    private static void doneByIt() {
        CoilSlits x = withCoils("62g0s0;31g1s1");
        x.order(0, 0, 30, 3, 9);
        x.order(1, 0, 30, 1, 8);
        x.order(2, 0, 30, 1, 7);
        same("one of three", 1, x.serveAll());
        sameOrder(x, 0, 0, 0, 0, 30, 1);
        sameOrder(x, 1, 2, 2, 0, 30, 1);
        same("three strips", 3, x.count(6));
        same("none is done by the next call", 0, x.serveAll());
    }

    private static void passesOver() {
        CoilSlits x = withCoils("31g0;31g0");
        x.order(3, 0, 30, 1, 99);
        x.order(0, 9, 30, 1, 98);
        x.order(0, 0, 31, 1, 97);
        x.order(0, 0, 30, 2, 1);
        same("the last one", 1, x.serveAll());
        same("count(3)", 3, x.count(3));
    }

    private static void setReturns() {
        CoilSlits x = new CoilSlits();
        same("set(0, 100)", 20, x.set(0, 100));
        same("set(0, 1)", 100, x.set(0, 1));
        same("set(1, 0)", 1, x.set(1, 0));
        same("set(1, 5)", 0, x.set(1, 5));
        same("set(2, 9)", 1, x.set(2, 9));
        same("set(2, 0)", 9, x.set(2, 0));
        same("set(3, 2)", 0, x.set(3, 2));
        same("set(3, 2) again", 2, x.set(3, 2));
        x.undo();
        x.undo();
        same("set(3, 1) behind undo", 0, x.set(3, 1));
    }

    // ---- promises 12 to 16

    private static void texts() {
        test("promise 12: append, each code from 33 to 126", EdgeTests::appendCodes);
        test("promise 13: clearBuffer returns 0 to 60", EdgeTests::clearReturns);
        test("promise 14: firstError of an empty and of a full buffer", EdgeTests::errorEnds);
        test("promise 15: receiveAll of an empty buffer", EdgeTests::receiveAllEmpty);
        test("promise 15: receiveAll stops at the first coil without room", EdgeTests::receiveAllStops);
        test("promise 15: receiveAll undone as one call, also if none is received", EdgeTests::receiveAllUndone);
        test("promise 15: receiveAll counts the coils before it for each coil", EdgeTests::receiveAllAnew);
        test("promise 16: undo returns 5 to 0", EdgeTests::undoReturns);
        test("promise 16: undo of a new object", EdgeTests::undoNew);
    }

    private static void appendCodes() {
        CoilSlits x = new CoilSlits();
        for (int code = 33; code < 93; code++) {
            same("append(" + code + ")", code - 32, x.append(code));
        }
        same("clearBuffer", 60, x.clearBuffer());
        for (int code = 93; code < 127; code++) {
            same("append(" + code + ")", code - 92, x.append(code));
        }
        for (int bad : new int[] {32, 127, 0, -1, 128, 33 + 256, 33 + 65536, LEAST, MOST}) {
            refuses(x, "append(" + bad + ")", ARGUMENT, () -> x.append(bad));
        }
        same("the length", 34, x.clearBuffer());
    }

    private static void clearReturns() {
        CoilSlits x = new CoilSlits();
        for (int length = 0; length <= 60; length++) {
            if (length % 10 == 0 || length % 10 == 1) {
                CoilSlits y = new CoilSlits();
                for (int i = 0; i < length; i++) {
                    y.append('1');
                }
                same("clearBuffer", length, y.clearBuffer());
                same("clearBuffer again", 0, y.clearBuffer());
            }
        }
        same("of a new object", 0, x.clearBuffer());
    }

    private static void errorEnds() {
        CoilSlits x = new CoilSlits();
        same("empty", 0, x.firstError());
        x.append('x');
        same("an error in the first place", 0, x.firstError());
        x.clearBuffer();
        same("empty again", 0, x.firstError());
        type(x, "1g0;1g0;1g0;1g0;1g0;1g0;1g0;1g0;1g0;1g0;1g0;1g0;1g0;1g0;1g0");
        same("59 without an error", 59, x.firstError());
        x.append('0');
        same("an error in the last place", 59, x.firstError());
        same("asked twice", 59, x.firstError());
        same("the buffer is not changed", 60, x.clearBuffer());
    }

    private static void receiveAllEmpty() {
        CoilSlits x = new CoilSlits();
        refuses(x, "empty", ARGUMENT, () -> x.receiveAll());
        type(x, "9g0");
        x.receiveAll();
        refuses(x, "empty again", ARGUMENT, () -> x.receiveAll());
        type(x, "9g0");
        x.clearBuffer();
        refuses(x, "cleared", ARGUMENT, () -> x.receiveAll());
        same("one saved state", 1, x.count(13));
    }

    private static void receiveAllStops() {
        CoilSlits x = withHeights(5);
        type(x, "11g0s1;12g0s2;13g0s0;14g0s3;15g0s4");
        same("two of five", 2, x.receiveAll());
        sameStack(x, 1, 5);
        sameStack(x, 2, 6);
        sameStack(x, 3);
        sameStack(x, 4);
        same("the widths", 250 + 11 + 12, x.count(11));
        same("the buffer is empty", 0, x.clearBuffer());
        same("the next number", 7, x.receive(9, 0, 0, 3));
    }

    private static void receiveAllUndone() {
        CoilSlits x = typed("11g0s1;12g0s2;13g0s0");
        same("three", 3, x.receiveAll());
        same("one state", 1, x.count(13));
        same("undo", 0, x.undo());
        same("none is left", 0, x.count(0));
        same("nothing was received", 0, x.count(11));
        CoilSlits y = withHeights(5);
        y.undo();
        y.undo();
        y.undo();
        type(y, "9g0s0;9g0s0;9g0s0");
        same("three", 3, y.receiveAll());
        type(y, "9g0s0");
        same("none", 0, y.receiveAll());
        same("states", 4, y.count(13));
        same("undo of none", 3, y.undo());
        same("five still", 5, y.count(0));
        same("undo of three", 2, y.undo());
        same("two still", 2, y.count(0));
    }

    private static void receiveAllAnew() {
        CoilSlits x = typed("1g0s1;2g0;3g0;4g0s0;5g0;6g0;7g0;8g0;9g0");
        same("nine", 9, x.receiveAll());
        // 2 finds 0 empty, 3 then 2; 5, 6, 7 find 3, 4, 5; then 1 and 2 have one each.
        sameStack(x, 0, 1, 3);
        sameStack(x, 1, 0, 7);
        sameStack(x, 2, 2, 8);
        sameStack(x, 3, 4);
        sameStack(x, 4, 5);
        sameStack(x, 5, 6);
    }

    private static void undoReturns() {
        CoilSlits x = new CoilSlits();
        for (int i = 0; i < 7; i++) {
            x.receive(9, 0, 0, i % 6);
        }
        for (int left = 5; left >= 0; left--) {
            same("undo()", left, x.undo());
            same("coils", left + 1, x.count(0));
        }
        refuses(x, "undo()", STATE, () -> x.undo());
        same("the first coil is left", 9, x.coil(0, 0));
    }

    private static void undoNew() {
        CoilSlits x = new CoilSlits();
        refuses(x, "undo()", STATE, () -> x.undo());
        x.append('1');
        refuses(x, "undo() behind append", STATE, () -> x.undo());
        x.clearBuffer();
        refuses(x, "undo() behind clearBuffer", STATE, () -> x.undo());
        x.set(0, 20);
        same("undo() behind set", 0, x.undo());
    }

    // ---- promises 17 to 22

    private static void looks() {
        test("promise 17: at, each place of a full yard and of an empty one", EdgeTests::atEach);
        test("promise 17: at, heights beside 0 to 4", EdgeTests::atBeside);
        test("promise 18: coil, the last number that was given and the next one", EdgeTests::coilNumbers);
        test("promise 18: coil, NONE for each property of one that is gone", EdgeTests::coilGone);
        test("promise 18: coil, properties beside 0 to 5", EdgeTests::coilBeside);
        test("promise 18: coil 4, coils above it, 0 to 4", EdgeTests::coilAbove);
        test("promise 19: orderOf, the last place and the one behind", EdgeTests::orderPlaces);
        test("promise 19: orderOf 6, those that cannot be dug out, too", EdgeTests::orderSuiting);
        test("promise 19: orderOf 7, whatever is still to be cut", EdgeTests::orderFitting);
        test("promise 19: orderOf, properties beside 0 to 7", EdgeTests::orderBeside);
        test("promise 20: whyNot, orders and coils that there are not", EdgeTests::whyNotNone);
        test("promise 21: count of each thing in an empty yard", EdgeTests::countEmpty);
        test("promise 21: count, each thing by itself", EdgeTests::countEach);
        test("promise 21: count, numbers beside 0 to 13", EdgeTests::countBeside);
        test("promise 22: setting, numbers beside 0 to 3", EdgeTests::settingBeside);
        test("looks: nothing is changed", EdgeTests::looksChangeNothing);
    }

    private static void atEach() {
        CoilSlits x = withHeights(5, 5, 5, 5, 5, 5);
        CoilSlits y = new CoilSlits();
        for (int place = 0; place < 30; place++) {
            same("at, full", place, x.at(place / 5, place % 5));
            same("at, empty", NONE, y.at(place / 5, place % 5));
        }
    }

    private static void atBeside() {
        CoilSlits x = withHeights(5, 0, 0, 0, 0, 5);
        for (int bad : new int[] {-1, 5, LEAST, MOST}) {
            refuses(x, "height " + bad, ARGUMENT, () -> x.at(0, bad));
            refuses(x, "height " + bad + " of an empty stack", ARGUMENT, () -> x.at(1, bad));
            refuses(x, "height " + bad + " of the last stack", ARGUMENT, () -> x.at(5, bad));
            refuses(x, "stack " + (bad == 5 ? 6 : bad), INDEX, () -> x.at(bad == 5 ? 6 : bad, 0));
        }
    }

    private static void coilNumbers() {
        CoilSlits x = new CoilSlits();
        refuses(x, "no coil yet", INDEX, () -> x.coil(0, 0));
        x.receive(9, 0, 0, 0);
        same("the last number", 9, x.coil(0, 0));
        for (int bad : new int[] {-1, 1, LEAST, MOST}) {
            refuses(x, "coil " + bad, INDEX, () -> x.coil(bad, 0));
        }
        x.sendAway(0);
        same("gone, but it has had the number", NONE, x.coil(0, 0));
        refuses(x, "the next number", INDEX, () -> x.coil(1, 0));
    }

    private static void coilGone() {
        CoilSlits x = withCoils("9g0;31g0;100g0");
        x.sendAway(0);
        x.order(0, 0, 30, 2, 1);
        x.slit(0, 1);
        x.slit(0, 2);
        for (int coil = 0; coil < 3; coil++) {
            sameCoil(x, coil, NONE, NONE, NONE, NONE, NONE, NONE);
        }
        sameCoil(x, 3, 69, 0, 4, 2, 0, 1);
    }

    private static void coilBeside() {
        CoilSlits x = withCoils("9g0;9g0");
        x.sendAway(1);
        for (int bad : new int[] {-1, 6, LEAST, MOST}) {
            refuses(x, "what " + bad, ARGUMENT, () -> x.coil(0, bad));
            refuses(x, "what " + bad + " of one that is gone", ARGUMENT, () -> x.coil(1, bad));
            refuses(x, "what " + bad + " of none", INDEX, () -> x.coil(2, bad));
        }
    }

    private static void coilAbove() {
        CoilSlits x = withHeights(0, 0, 0, 0, 0, 5);
        for (int coil = 0; coil < 5; coil++) {
            same("above " + coil, 4 - coil, x.coil(coil, 4));
        }
        x.sendAway(4);
        for (int coil = 0; coil < 4; coil++) {
            same("above " + coil, 3 - coil, x.coil(coil, 4));
        }
    }

    private static void orderPlaces() {
        CoilSlits x = new CoilSlits();
        for (int what = 0; what < 8; what++) {
            same("no orders", NONE, x.orderOf(0, what));
        }
        for (int i = 0; i < 8; i++) {
            x.order(0, 0, 10, 1, 1);
        }
        same("the last place", 7, x.orderOf(7, 0));
        for (int what = 0; what < 8; what++) {
            same("the place behind", NONE, x.orderOf(8, what));
            same("a place far behind", NONE, x.orderOf(MOST, what));
        }
        refuses(x, "place -1", ARGUMENT, () -> x.orderOf(-1, 0));
        refuses(x, "place least", ARGUMENT, () -> x.orderOf(LEAST, 0));
    }

    private static void orderSuiting() {
        CoilSlits x = withHeights(5, 5, 5, 5, 5, 5);
        x.order(0, 5, 49, 1, 1);
        x.order(0, 6, 49, 1, 1);
        x.order(0, 5, 50, 1, 1);
        x.order(1, 5, 49, 1, 1);
        same("all 30", 30, x.orderOf(0, 6));
        same("30 strips", 30, x.orderOf(0, 7));
        for (int place = 1; place < 4; place++) {
            same("none", 0, x.orderOf(place, 6));
            same("no strips", 0, x.orderOf(place, 7));
        }
    }

    private static void orderFitting() {
        CoilSlits x = withCoils("200g0;66g0;65g0;33g0;32g0;200g1");
        x.order(0, 5, 32, 1, 1);
        same("four coils", 4, x.orderOf(0, 6));
        same("6 + 2 + 1 + 1, though one is still to be cut", 10, x.orderOf(0, 7));
        x.set(1, 0);
        same("five coils", 5, x.orderOf(0, 6));
        same("6 + 2 + 2 + 1 + 1", 12, x.orderOf(0, 7));
        x.set(1, 5);
        same("200 / 37, 66 / 37, 65 / 37", 7, x.orderOf(0, 7));
    }

    private static void orderBeside() {
        CoilSlits x = new CoilSlits();
        x.order(0, 0, 10, 1, 1);
        for (int bad : new int[] {-1, 8, LEAST, MOST}) {
            refuses(x, "what " + bad, ARGUMENT, () -> x.orderOf(0, bad));
            refuses(x, "what " + bad + " of a place without an order", ARGUMENT, () -> x.orderOf(1, bad));
            refuses(x, "what " + bad + " of place -1", ARGUMENT, () -> x.orderOf(-1, bad));
        }
    }

    private static void whyNotNone() {
        CoilSlits x = withCoils("50g0;50g0");
        x.order(0, 0, 30, 1, 1);
        for (int bad : new int[] {-1, 2, LEAST, MOST}) {
            refuses(x, "order " + bad, INDEX, () -> x.whyNot(bad, 0));
            refuses(x, "coil " + bad, INDEX, () -> x.whyNot(0, bad));
        }
        x.sendAway(0);
        refuses(x, "a coil that is gone", INDEX, () -> x.whyNot(0, 0));
        same("the other one", 0, x.whyNot(0, 1));
        x.cancel(0);
        refuses(x, "an order that is gone", INDEX, () -> x.whyNot(0, 1));
    }

    private static void countEmpty() {
        CoilSlits x = new CoilSlits();
        for (int what = 0; what < 14; what++) {
            same("count(" + what + ")", 0, x.count(what));
        }
    }

    private static void countEach() {
        CoilSlits x = new CoilSlits();
        x.receive(200, 0, 9, 0);
        sameCounts(x, 0, 1, 200, 0, 0, 0, 0, 0, 0, 0, 0, 0, 200, 0, 1);
        x.move(0, 4);
        sameCounts(x, 0, 1, 200, 0, 0, 1, 4, 0, 0, 0, 0, 0, 200, 0, 2);
        x.order(0, 0, 30, 3, 11);
        sameCounts(x, 0, 1, 200, 0, 1, 1, 4, 0, 0, 0, 0, 0, 200, 0, 3);
        x.set(1, 4);
        sameCounts(x, 0, 1, 200, 0, 1, 1, 4, 0, 0, 0, 0, 0, 200, 0, 4);
        x.slit(0, 0);
        sameCounts(x, 0, 1, 98, 1, 0, 1, 4, 3, 90, 12, 0, 33, 200, 0, 5);
        x.set(0, 99);
        x.order(0, 0, 50, 1, 7);
        x.serve(1);
        sameCounts(x, 0, 0, 0, 0, 0, 1, 4, 4, 140, 16, 44, 40, 200, 0, 6);
        x.receive(1, 0, 0, 0);
        x.sendAway(2);
        sameCounts(x, 0, 0, 0, 0, 0, 1, 4, 4, 140, 16, 44, 40, 201, 1, 6);
        x.undo();
        sameCounts(x, 0, 1, 1, 0, 0, 1, 4, 4, 140, 16, 44, 40, 201, 0, 5);
    }

    private static void countBeside() {
        CoilSlits x = new CoilSlits();
        for (int bad : new int[] {-1, 14, LEAST, MOST}) {
            refuses(x, "count(" + bad + ")", ARGUMENT, () -> x.count(bad));
        }
    }

    private static void settingBeside() {
        CoilSlits x = new CoilSlits();
        for (int bad : new int[] {-1, 4, LEAST, MOST}) {
            refuses(x, "setting(" + bad + ")", INDEX, () -> x.setting(bad));
        }
    }

    private static void looksChangeNothing() {
        CoilSlits x = withCoils("99g0s0;98g0s0;50g1s1");
        x.order(0, 0, 30, 2, 7);
        x.order(1, 0, 10, 1, 3);
        x.set(3, 1);
        type(x, "9g");
        long before = x.digest();
        x.at(0, 1);
        x.coil(0, 4);
        x.orderOf(1, 7);
        x.whyNot(0, 2);
        x.count(13);
        x.setting(3);
        same("behind the looks", before, x.digest());
        for (int order = 0; order < 2; order++) {
            x.choice(order);
            for (int i = 0; i < 12; i++) {
                x.ifServed(order, i / 4, i % 4);
            }
        }
        x.bestRule();
        x.bestStack();
        x.used();
        same("behind what would be", before, x.digest());
        same("the rule", 1, x.setting(3));
        same("the saved states", 4, x.count(13));
        same("undo", 3, x.undo());
        same("the rule before", 0, x.setting(3));
    }

    // ---- promises 23 to 28

    private static void whatWouldBe() {
        test("promise 23: choice, NONE for each reason", EdgeTests::choiceNone);
        test("promise 23: choice, orders that there are not", EdgeTests::choiceBeside);
        test("promise 23: choice is what serve slits first", EdgeTests::choiceIsServed);
        test("promise 24: ifServed is what serve brings", EdgeTests::ifServedIsServed);
        test("promise 24: ifServed, nothing for an order that no coil suits", EdgeTests::ifServedNothing);
        test("promise 24: ifServed, rules and whats beside their ranges", EdgeTests::ifServedBeside);
        test("promise 25: bestRule, the greatest prices by each rule", EdgeTests::bestByPrices);
        test("promise 25: bestRule, of several the least scrap", EdgeTests::bestByScrap);
        test("promise 25: bestRule, of these the least ways, not the fewest moves", EdgeTests::bestByWays);
        test("promise 25: bestRule, of these the lowest", EdgeTests::bestLowest);
        test("promise 26: bestStack, the fewest coils that are wider than the topmost one", EdgeTests::stackWider);
        test("promise 26: bestStack, of several the fewest coils, of these the lowest", EdgeTests::stackFewest);
        test("promise 26: bestStack, with room, NONE if none has", EdgeTests::stackRoom);
        test("promise 27: used, 1.0 if that is 0", EdgeTests::usedNothing);
        test("promise 27: used, a share of strips, of what was lost, and of scrap", EdgeTests::usedShare);
        test("promise 28: digest of a new object, reckoned by hand", EdgeTests::digestNew);
        test("promise 28: digest tells apart what differs in one value", EdgeTests::digestApart);
        test("promise 28: digest takes the length of the buffer and each character", EdgeTests::digestBuffer);
        test("promise 28: digest takes the bits of used, from a small share to 1.0", EdgeTests::digestUsed);
        test("promise 28: digest of a full yard with eight orders", EdgeTests::digestFull);
        test("promise 28: digest by long arithmetic with overflow", EdgeTests::digestOverflow);
    }

    private static void choiceNone() {
        CoilSlits x = new CoilSlits();
        x.order(0, 5, 49, 1, 1);
        same("an empty yard", NONE, x.choice(0));
        type(x, "50g1;50g0q4;49g0");
        x.receiveAll();
        same("grade, quality, width", NONE, x.choice(0));
        x.receive(50, 0, 5, 5);
        same("one suits", 3, x.choice(0));
        CoilSlits y = withHeights(5, 5, 5, 5, 5, 4);
        y.receive(9, 1, 0, 5);
        for (int stack = 0; stack < 5; stack++) {
            y.sendAway(5 * stack + 4);
            y.receive(9, 1, 0, stack);
        }
        y.order(0, 5, 49, 1, 1);
        for (int rule = 0; rule < 3; rule++) {
            y.set(3, rule);
            same("none can be dug out, by rule " + rule, NONE, y.choice(0));
        }
        y.sendAway(29);
        same("room in stack 5", 3, y.choice(0));
        for (int rule = 0; rule < 2; rule++) {
            y.set(3, rule);
            // By the rests all are alike; by what lies above only coil 28 is free.
            same("rule " + rule, rule == 0 ? 3 : 28, y.choice(0));
        }
    }

    private static void choiceBeside() {
        CoilSlits x = withCoils("50g0");
        refuses(x, "no orders", INDEX, () -> x.choice(0));
        x.order(0, 0, 30, 1, 1);
        for (int bad : new int[] {-1, 1, LEAST, MOST}) {
            refuses(x, "choice(" + bad + ")", INDEX, () -> x.choice(bad));
        }
        x.cancel(0);
        refuses(x, "an order that is gone", INDEX, () -> x.choice(0));
    }

    private static void choiceIsServed() {
        for (int rule = 0; rule < 3; rule++) {
            CoilSlits x = withCoils("50g0q8s0;9g1s0;31g0q9s1;9g1s1;9g1s1", "70g0q2s2;9g1s2;9g1s2;90g0q7s3");
            x.set(3, rule);
            x.order(0, 0, 30, 1, 1);
            int coil = x.choice(0);
            same("choice by rule " + rule, new int[] {2, 8, 5}[rule], coil);
            x.serve(0);
            same("it is slit", NONE, x.coil(coil, 0));
        }
    }

    private static void ifServedIsServed() {
        for (int rule = 0; rule < 3; rule++) {
            CoilSlits x = withCoils("50g0q8s0;9g1s0;31g0q9s1;9g1s1;9g1s1", "70g0q2s2;9g1s2;9g1s2;95g0q7s3");
            x.order(0, 0, 30, 5, 1);
            x.move(3, 5);
            x.move(5, 3);
            int[] due = new int[4];
            for (int what = 0; what < 4; what++) {
                due[what] = x.ifServed(0, rule, what);
            }
            x.set(3, rule);
            int[] counts = {6, 4, 9, 5};
            int[] before = new int[4];
            for (int what = 0; what < 4; what++) {
                before[what] = x.count(counts[what]);
            }
            same("serve by rule " + rule, due[0], x.serve(0));
            for (int what = 0; what < 4; what++) {
                same("ifServed " + what, x.count(counts[what]) - before[what], due[what]);
            }
        }
    }

    private static void ifServedNothing() {
        CoilSlits x = withCoils("50g0");
        x.order(1, 0, 30, 5, 1);
        x.order(0, 0, 30, 1, 1);
        x.move(0, 1);
        for (int rule = 0; rule < 3; rule++) {
            for (int what = 0; what < 4; what++) {
                same("ifServed(0)", 0, x.ifServed(0, rule, what));
                same("ifServed(1)", new int[] {1, 0, 19, 0}[what], x.ifServed(1, rule, what));
            }
        }
    }

    private static void ifServedBeside() {
        CoilSlits x = withCoils("50g0");
        refuses(x, "no orders", INDEX, () -> x.ifServed(0, 0, 0));
        x.order(0, 0, 30, 1, 1);
        same("the last rule, the last what", 0, x.ifServed(0, 2, 3));
        for (int bad : new int[] {-1, 3, LEAST, MOST}) {
            refuses(x, "order " + bad, INDEX, () -> x.ifServed(bad, 0, 0));
            refuses(x, "order " + bad + ", rule " + bad, INDEX, () -> x.ifServed(bad, bad, 0));
            refuses(x, "rule " + bad, ARGUMENT, () -> x.ifServed(0, bad, 0));
            refuses(x, "what " + bad, ARGUMENT, () -> x.ifServed(0, 0, bad == 3 ? 4 : bad));
        }
    }

    /** Prices, scrap, and ways that serveAll would bring by a rule; it is undone. */
    private static void brings(CoilSlits x, int rule, int prices, int scrap, int ways) {
        int[] before = {x.count(10), x.count(9), x.count(5)};
        x.set(3, rule);
        x.serveAll();
        same("prices by rule " + rule, prices, x.count(10) - before[0]);
        same("scrap by rule " + rule, scrap, x.count(9) - before[1]);
        same("ways by rule " + rule, ways, x.count(5) - before[2]);
        x.undo();
        x.undo();
    }

    private static void bestByPrices() {
        // Only the least rest leaves a coil for the wide strip of the other order.
        CoilSlits zero = withCoils("61g0q3s0;31g0q5s1");
        zero.order(0, 0, 30, 1, 9);
        zero.order(0, 0, 60, 1, 5);
        zero.set(0, 100);
        brings(zero, 0, 14, 0, 0);
        brings(zero, 1, 9, 30, 0);
        brings(zero, 2, 9, 30, 0);
        same("by the least rest", 0, zero.bestRule());
        // By what lies above coil 1 is enough; else coil 0, that is as good as order 1 asks, is cut first.
        CoilSlits one = withCoils("39g0q6s0;79g0q6s0");
        one.order(0, 5, 27, 2, 9);
        one.order(0, 6, 22, 1, 8);
        brings(one, 0, 18, 11, 1);
        brings(one, 1, 26, 16, 1);
        brings(one, 2, 18, 11, 1);
        same("by what lies above, though it makes more scrap", 1, one.bestRule());
        CoilSlits two = withCoils("60g0q9s0;60g0q0s1");
        two.order(0, 0, 50, 1, 10);
        two.order(0, 5, 50, 1, 5);
        brings(two, 0, 10, 9, 0);
        brings(two, 1, 10, 9, 0);
        brings(two, 2, 15, 18, 0);
        same("by the least quality, though it makes more scrap", 2, two.bestRule());
    }

    private static void bestByScrap() {
        // The least rest is scrap; by quality a wider rest goes back, over a longer way.
        CoilSlits x = withCoils("60g0q9s0;90g0q3s1;9g1s1");
        x.order(0, 0, 50, 1, 9);
        brings(x, 0, 9, 9, 0);
        brings(x, 1, 9, 9, 0);
        brings(x, 2, 9, 0, 1);
        same("the least scrap, though it has to dig", 2, x.bestRule());
    }

    private static void bestByWays() {
        // By rest two moves of way 1 each, else one move of way 3; prices and scrap are alike.
        CoilSlits x = withCoils("60g0q9s1;9g1s1;9g1s1;60g0q3s5;9g1s5;9g1s4;9g1s3;9g1s3");
        x.order(0, 0, 50, 1, 9);
        brings(x, 0, 9, 9, 2);
        brings(x, 1, 9, 9, 3);
        brings(x, 2, 9, 9, 3);
        same("the least ways", 0, x.bestRule());
        CoilSlits y = withCoils("60g0q9s0;9g1s0;60g0q3s1");
        y.order(0, 0, 50, 1, 9);
        brings(y, 0, 9, 9, 2);
        brings(y, 1, 9, 9, 0);
        brings(y, 2, 9, 9, 0);
        same("of 1 and 2 the lowest", 1, y.bestRule());
    }

    private static void bestLowest() {
        CoilSlits x = new CoilSlits();
        for (int rule = 2; rule >= 0; rule--) {
            x.set(3, rule);
            same("no orders, whatever the setting", 0, x.bestRule());
        }
        CoilSlits y = withCoils("60g0");
        y.set(3, 2);
        y.order(1, 0, 50, 1, 9);
        same("no coil suits", 0, y.bestRule());
        y.order(0, 0, 50, 1, 9);
        same("all alike", 0, y.bestRule());
        same("setting 3 stays", 2, y.setting(3));
    }

    private static void stackWider() {
        CoilSlits x = withCoils("9g0s0;8g0s0;9g0s1;9g0s1;9g0s1;9g0s2;8g0s2", "8g0s3;9g0s3;8g0s3;9g0s4;8g0s4;9g0s5;8g0s5");
        same("none is wider in stack 1", 1, x.bestStack());
        x.receive(8, 0, 0, 1);
        same("one is wider in 0, 2 and on, three in 1", 0, x.bestStack());
        x.receive(7, 0, 0, 0);
        same("one in stack 2", 2, x.bestStack());
        x.receive(10, 0, 0, 5);
        same("none is wider than the new one in stack 5", 5, x.bestStack());
    }

    private static void stackFewest() {
        CoilSlits x = new CoilSlits();
        for (int stack = 0; stack < 6; stack++) {
            same("the lowest empty one", stack, x.bestStack());
            x.receive(9, 0, 0, stack);
        }
        for (int stack = 0; stack < 6; stack++) {
            same("the lowest with one coil", stack, x.bestStack());
            x.receive(9, 0, 0, stack);
        }
        x.sendAway(9);
        same("stack 3 has fewer", 3, x.bestStack());
        x.sendAway(3);
        same("stack 3 is empty", 3, x.bestStack());
        x.sendAway(10);
        x.sendAway(4);
        same("stack 4 is, too", 3, x.bestStack());
    }

    private static void stackRoom() {
        CoilSlits x = withHeights(5, 5, 5, 5, 5, 4);
        same("stack 5 alone has room", 5, x.bestStack());
        x.receive(1, 0, 0, 5);
        same("none has", NONE, x.bestStack());
        x.undo();
        x.sendAway(28);
        x.receive(9, 0, 0, 5);
        same("three wider ones, but room", 5, x.bestStack());
        CoilSlits y = withHeights(4, 5);
        type(y, "51g0s0;9g0s2;8g0s2;9g0s3;8g0s3;9g0s4;8g0s4;9g0s5;8g0s5");
        y.receiveAll();
        same("one wider in stack 2, none in the full ones", 2, y.bestStack());
    }

    private static void usedNothing() {
        CoilSlits x = new CoilSlits();
        sameShare("a new object", 1.0, x.used());
        x.receive(50, 0, 5, 0);
        sameShare("a coil", 1.0, x.used());
        x.order(0, 0, 30, 1, 1);
        x.slit(0, 0);
        sameShare("one strip", 30.0 / 50.0, x.used());
        x.undo();
        sameShare("undone", 1.0, x.used());
        x.sendAway(0);
        sameShare("sent away", 1.0, x.used());
    }

    private static void usedShare() {
        CoilSlits x = withCoils("131g0s0;130g0s1;31g0s2");
        x.order(0, 0, 30, 1, 1);
        x.slit(0, 0);
        sameShare("a rest that goes back is not counted", 30.0 / 31.0, x.used());
        x.set(0, 100);
        x.order(0, 0, 30, 1, 1);
        x.slit(1, 1);
        sameShare("scrap of 99", 60.0 / 161.0, x.used());
        x.set(1, 0);
        x.order(0, 0, 31, 1, 1);
        x.slit(2, 2);
        sameShare("nothing is lost at a strip", 91.0 / 192.0, x.used());
        CoilSlits y = withCoils("199g0");
        y.set(0, 100);
        y.set(1, 5);
        y.order(0, 0, 2, 1, 1);
        y.set(0, 100);
        y.slit(0, 0);
        sameShare("a rest of 192 goes back", 2.0 / 7.0, y.used());
        y.order(0, 0, 95, 1, 1);
        y.slit(1, 1);
        sameShare("scrap of 92", 97.0 / 199.0, y.used());
    }

    private static void digestNew() {
        long hash = 2879;
        for (int i = 0; i < 14; i++) {
            hash = 31 * hash;
        }
        for (int setting : new int[] {20, 1, 1, 0}) {
            hash = 31 * hash + setting;
        }
        for (int i = 0; i < 30; i++) {
            hash = 31 * hash - 1;
        }
        hash = 31 * hash;
        hash = 31 * hash;
        hash = 31 * hash + 0x3FF0000000000000L;
        hash = 31 * hash;
        same("digest()", hash, new CoilSlits().digest());
    }

    private static void digestApart() {
        CoilSlits x = withCoils("50g0q5s0");
        long[] digests = new long[9];
        String[] texts = {"51g0q5s0", "50g1q5s0", "50g0q6s0", "50g0q5s1", "50g0q5s5"};
        digests[0] = x.digest();
        for (int i = 0; i < texts.length; i++) {
            digests[i + 1] = withCoils(texts[i]).digest();
        }
        x.set(3, 1);
        digests[6] = x.digest();
        x.undo();
        x.order(0, 0, 30, 1, 1);
        digests[7] = x.digest();
        x.undo();
        x.order(0, 0, 30, 1, 2);
        digests[8] = x.digest();
        for (int i = 0; i < digests.length; i++) {
            for (int k = 0; k < i; k++) {
                same("alike: " + i + " and " + k, 0, digests[i] == digests[k] ? 1 : 0);
            }
        }
    }

    private static void digestBuffer() {
        CoilSlits x = new CoilSlits();
        // The digest of an empty buffer ends with 31 * hash + 0; so it divides by 31 in wrapping arithmetic.
        long before = x.digest();
        x.append(33);
        same("one character", 31 * (before + 1) + 33, x.digest());
        x.append(126);
        same("two characters", 31 * (31 * (before + 2) + 33) + 126, x.digest());
        x.clearBuffer();
        same("cleared", before, x.digest());
        for (int i = 0; i < 60; i++) {
            x.append('z');
        }
        long hash = before + 60;
        for (int i = 0; i < 60; i++) {
            hash = 31 * hash + 'z';
        }
        same("sixty characters", hash, x.digest());
    }

    private static void digestUsed() {
        int[] widths = {102, 50, 58, 30, 62, 90, 100, 31};
        int[] strips = {2, 25, 30, 29, 31, 89, 4, 31};
        for (int loss = 0; loss < 2; loss++) {
            for (int i = 0; i < widths.length; i++) {
                CoilSlits x = new CoilSlits();
                x.set(0, 100);
                x.set(1, loss);
                x.receive(widths[i], 0, 5, 0);
                x.order(0, 0, strips[i], 1, 1);
                x.serve(0);
                sameDigest(x, "");
            }
        }
        // 2 of 102: a share of less than a fiftieth.
        CoilSlits y = withCoils("102g0");
        y.set(0, 100);
        y.order(0, 0, 2, 1, 1);
        y.serve(0);
        sameShare("used", 2.0 / 102.0, y.used());
        sameDigest(y, "");
    }

    private static void digestFull() {
        CoilSlits x = new CoilSlits();
        for (int i = 0; i < 30; i++) {
            x.receive(200 - 3 * i, i % 4, i % 10, i % 6);
        }
        for (int i = 0; i < 8; i++) {
            x.order(i % 4, i, 10 + 5 * i, 40 - i, 50 + i % 3);
        }
        sameDigest(x, "");
        type(x, "!~");
        sameDigest(x, "!~");
        x.serveAll();
        sameDigest(x, "!~");
        x.undo();
        sameDigest(x, "!~");
    }

    private static void digestOverflow() {
        java.math.BigInteger hash = java.math.BigInteger.valueOf(2879);
        java.math.BigInteger prime = java.math.BigInteger.valueOf(31);
        for (int i = 0; i < 14; i++) {
            hash = hash.multiply(prime);
        }
        for (int value : new int[] {20, 1, 1, 0}) {
            hash = hash.multiply(prime).add(java.math.BigInteger.valueOf(value));
        }
        for (int i = 0; i < 30; i++) {
            hash = hash.multiply(prime).subtract(java.math.BigInteger.ONE);
        }
        hash = hash.multiply(prime).multiply(prime);
        hash = hash.multiply(prime).add(java.math.BigInteger.valueOf(Double.doubleToLongBits(1.0)));
        hash = hash.multiply(prime);
        same("the low 64 bits", hash.longValue(), new CoilSlits().digest());
        same("it is longer than a long", 1, hash.bitLength() > 64 ? 1 : 0);
    }
}
