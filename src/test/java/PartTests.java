/** The parts of ../shared/DOC.md ahead of its promises: a test for each sentence that names an edge. */
public final class PartTests extends Checks {
    public static void main(String[] args) {
        whatItIs();
        coilsAndStacks();
        digging();
        suiting();
        slitting();
        serving();
        settings();
        inputText();
        undoing();
        exceptions();
        finish();
    }

    // ---- What it is

    private static void whatItIs() {
        test("What it is: 512 calls that bring coils and send them away", PartTests::callsWithCoils);
        test("What it is: 512 calls that take orders and cancel them", PartTests::callsWithOrders);
        test("What it is: 512 calls that append and clear", PartTests::callsWithTexts);
        test("What it is: 512 calls of digest in a full yard with eight orders", PartTests::callsOfDigest);
    }

    private static void callsWithCoils() {
        CoilSlits x = new CoilSlits();
        for (int i = 0; i < 255; i++) {
            same("receive", i, x.receive(200, 3, 9, i % 6));
            same("sendAway", 200, x.sendAway(i));
        }
        same("the 511th call, count(12)", 51000, x.count(12));
        same("the 512th call, coil(254, 0)", NONE, x.coil(254, 0));
    }

    private static void callsWithOrders() {
        CoilSlits x = new CoilSlits();
        for (int i = 0; i < 255; i++) {
            same("order", i, x.order(3, 9, 100, 40, 99));
            same("cancel", 40, x.cancel(i));
        }
        same("the 511th call, order", 255, x.order(0, 0, 2, 1, 1));
        same("the 512th call, orderOf(0, 0)", 255, x.orderOf(0, 0));
    }

    private static void callsWithTexts() {
        CoilSlits x = new CoilSlits();
        for (int round = 0; round < 8; round++) {
            for (int i = 1; i <= 60; i++) {
                same("append", i, x.append(126));
            }
            same("clearBuffer", 60, x.clearBuffer());
        }
        for (int i = 489; i < 512; i++) {
            same("append", i - 488, x.append(33));
        }
        same("the 512th call, clearBuffer", 23, x.clearBuffer());
    }

    private static void callsOfDigest() {
        CoilSlits x = new CoilSlits();
        for (int i = 0; i < 30; i++) {
            x.receive(200, i % 2, 9, i / 5);
        }
        for (int i = 0; i < 8; i++) {
            x.order(i % 2, 0, 2, 40, 99 - i);
        }
        long digest = x.digest();
        for (int i = 39; i < 511; i++) {
            same("digest", digest, x.digest());
        }
        same("the 512th call, serveAll", 8, x.serveAll());
    }

    // ---- Coils, stacks

    private static void coilsAndStacks() {
        test("Coils, stacks: 6 stacks, numbered from 0", PartTests::sixStacks);
        test("Coils, stacks: at most 5 coils, by receive", PartTests::fiveByReceive);
        test("Coils, stacks: at most 5 coils, by move", PartTests::fiveByMove);
        test("Coils, stacks: at most 5 coils, by receiveAll", PartTests::fiveByReceiveAll);
        test("Coils, stacks: at most 5 coils, by digging", PartTests::fiveByDigging);
        test("Coils, stacks: 30 coils fill the yard", PartTests::thirtyCoils);
        test("Coils, stacks: one above the other", PartTests::oneAboveTheOther);
        test("Coils, stacks: numbered in the order in which they came, rests, too", PartTests::coilNumbers);
        test("Coils, stacks: a number is not given twice", PartTests::coilNumbersOnce);
        test("Coils, stacks: a width, 1 to 200", PartTests::widths);
        test("Coils, stacks: a grade, 0 to 3", PartTests::grades);
        test("Coils, stacks: a quality, 0 to 9", PartTests::qualities);
        test("Coils, stacks: the way is the difference of the numbers, both ways", PartTests::ways);
    }

    private static void sixStacks() {
        CoilSlits x = new CoilSlits();
        for (int stack = 0; stack < 6; stack++) {
            same("receive", stack, x.receive(9, 0, 0, stack));
            sameStack(x, stack, stack);
        }
        refuses(x, "receive on 6", INDEX, () -> x.receive(9, 0, 0, 6));
        refuses(x, "receive on -1", INDEX, () -> x.receive(9, 0, 0, -1));
        refuses(x, "move from 6", INDEX, () -> x.move(6, 0));
        refuses(x, "move from -1", INDEX, () -> x.move(-1, 0));
        refuses(x, "move to 6", INDEX, () -> x.move(0, 6));
        refuses(x, "move to -1", INDEX, () -> x.move(0, -1));
        refuses(x, "at 6", INDEX, () -> x.at(6, 0));
        refuses(x, "at -1", INDEX, () -> x.at(-1, 0));
    }

    private static void fiveByReceive() {
        for (int s = 0; s < 6; s++) {
            int stack = s;
            CoilSlits x = new CoilSlits();
            for (int i = 0; i < 5; i++) {
                same("receive on " + stack, i, x.receive(9, 0, 0, stack));
            }
            sameStack(x, stack, 0, 1, 2, 3, 4);
            refuses(x, "a sixth on " + stack, STATE, () -> x.receive(9, 0, 0, stack));
            x.sendAway(4);
            same("room again on " + stack, 5, x.receive(9, 0, 0, stack));
            refuses(x, "a sixth again on " + stack, STATE, () -> x.receive(9, 0, 0, stack));
        }
    }

    private static void fiveByMove() {
        CoilSlits x = withHeights(4, 2);
        same("the fifth", 5, x.move(1, 0));
        sameStack(x, 0, 0, 1, 2, 3, 5);
        refuses(x, "a sixth", STATE, () -> x.move(1, 0));
        same("from the full one", 5, x.move(0, 2));
        same("room again", 4, x.move(1, 0));
        refuses(x, "from an empty one onto a full one", STATE, () -> x.move(3, 0));
    }

    private static void fiveByReceiveAll() {
        CoilSlits x = withHeights(0, 4);
        type(x, "9g0s1;8g0s1;7g0s0");
        same("the fifth, and no sixth", 1, x.receiveAll());
        sameStack(x, 1, 0, 1, 2, 3, 4);
        sameStack(x, 0);
        CoilSlits y = withHeights(5, 5, 5, 5, 5, 3);
        type(y, "9g0;8g0;7g0");
        same("the yard is full", 2, y.receiveAll());
        sameStack(y, 5, 25, 26, 27, 28, 29);
    }

    private static void fiveByDigging() {
        CoilSlits x = withHeights(5, 4, 5, 5, 5, 4);
        same("both places that are left", 2, x.dig(2));
        sameStack(x, 1, 5, 6, 7, 8, 4);
        sameStack(x, 5, 24, 25, 26, 27, 3);
        sameStack(x, 0, 0, 1, 2);
    }

    private static void thirtyCoils() {
        CoilSlits x = withHeights(5, 5, 5, 5, 5, 5);
        sameCounts(x, 0, 30, 1500);
        for (int s = 0; s < 6; s++) {
            int stack = s;
            refuses(x, "receive on " + s, STATE, () -> x.receive(9, 0, 0, stack));
            refuses(x, "move from " + s, STATE, () -> x.move(stack, (stack + 1) % 6));
        }
        same("at(5, 4)", 29, x.at(5, 4));
    }

    private static void oneAboveTheOther() {
        CoilSlits x = withHeights(0, 0, 5);
        for (int i = 0; i < 5; i++) {
            same("coils above " + i, 4 - i, x.coil(i, 4));
        }
        for (int i = 0; i < 5; i++) {
            same("the topmost one", 4 - i, x.move(2, i < 3 ? 1 : 0));
        }
        sameStack(x, 1, 4, 3, 2);
        sameStack(x, 0, 1, 0);
        sameStack(x, 2);
    }

    private static void coilNumbers() {
        CoilSlits x = withCoils("100g0;90g1");
        x.order(0, 0, 30, 1, 1);
        x.order(1, 0, 20, 1, 1);
        same("serveAll", 2, x.serveAll());
        // The rests of 69 and of 69 come in the order of the orders' prices, here of their numbers.
        sameCoil(x, 2, 69, 0, 4, 0, 0, 1);
        sameCoil(x, 3, 69, 1, 4, 1, 0, 1);
        same("receive", 4, x.receive(9, 0, 0, 0));
        type(x, "8g0s3;7g0s2");
        x.receiveAll();
        sameStack(x, 3, 5);
        sameStack(x, 2, 6);
    }

    private static void coilNumbersOnce() {
        CoilSlits x = new CoilSlits();
        x.receive(9, 0, 0, 0);
        x.receive(9, 0, 0, 0);
        x.sendAway(1);
        same("the number behind the one that is gone", 2, x.receive(9, 0, 0, 0));
        same("coil 1 is gone", NONE, x.coil(1, 0));
        x.order(0, 0, 5, 1, 1);
        x.slit(0, 2);
        same("the number behind one that was scrap", 3, x.receive(9, 0, 0, 0));
    }

    private static void widths() {
        CoilSlits x = new CoilSlits();
        same("width 1", 0, x.receive(1, 0, 0, 0));
        same("width 200", 1, x.receive(200, 0, 0, 0));
        sameCounts(x, 0, 2, 201);
        refuses(x, "width 0", ARGUMENT, () -> x.receive(0, 0, 0, 0));
        refuses(x, "width 201", ARGUMENT, () -> x.receive(201, 0, 0, 0));
        refuses(x, "width -1", ARGUMENT, () -> x.receive(-1, 0, 0, 0));
        refuses(x, "width least", ARGUMENT, () -> x.receive(Integer.MIN_VALUE, 0, 0, 0));
        refuses(x, "width most", ARGUMENT, () -> x.receive(Integer.MAX_VALUE, 0, 0, 0));
    }

    private static void grades() {
        CoilSlits x = new CoilSlits();
        for (int grade = 0; grade < 4; grade++) {
            x.receive(9, grade, 0, grade);
            same("grade", grade, x.coil(grade, 1));
        }
        refuses(x, "grade -1", ARGUMENT, () -> x.receive(9, -1, 0, 0));
        refuses(x, "grade 4", ARGUMENT, () -> x.receive(9, 4, 0, 0));
        refuses(x, "grade least", ARGUMENT, () -> x.receive(9, Integer.MIN_VALUE, 0, 0));
        refuses(x, "grade most", ARGUMENT, () -> x.receive(9, Integer.MAX_VALUE, 0, 0));
    }

    private static void qualities() {
        CoilSlits x = new CoilSlits();
        for (int quality = 0; quality < 10; quality++) {
            x.receive(9, 0, quality, quality / 2);
            same("quality", quality, x.coil(quality, 2));
        }
        refuses(x, "quality -1", ARGUMENT, () -> x.receive(9, 0, -1, 5));
        refuses(x, "quality 10", ARGUMENT, () -> x.receive(9, 0, 10, 5));
        refuses(x, "quality least", ARGUMENT, () -> x.receive(9, 0, Integer.MIN_VALUE, 5));
        refuses(x, "quality most", ARGUMENT, () -> x.receive(9, 0, Integer.MAX_VALUE, 5));
    }

    private static void ways() {
        CoilSlits x = withHeights(1);
        x.move(0, 5);
        sameCounts(x, 4, 1, 5);
        x.move(5, 0);
        sameCounts(x, 4, 2, 10);
        x.move(0, 1);
        sameCounts(x, 4, 3, 11);
        x.move(1, 0);
        sameCounts(x, 4, 4, 12);
        x.move(0, 3);
        x.move(3, 1);
        sameCounts(x, 4, 6, 17);
    }

    // ---- digging

    private static void digging() {
        test("Coils, stacks: digging, from the topmost coil on", PartTests::digTopmostFirst);
        test("Coils, stacks: digging, to the stack with the fewest coils, however far", PartTests::digFewest);
        test("Coils, stacks: digging, of several the nearest one", PartTests::digNearest);
        test("Coils, stacks: digging, of these the lowest one", PartTests::digLowest);
        test("Coils, stacks: digging, other than its own, even if that has the fewest", PartTests::digNotItsOwn);
        test("Coils, stacks: digging, the fewest coils are looked for anew for each coil", PartTests::digAnew);
        test("Coils, stacks: digging, the coil itself stays where it is", PartTests::digStays);
        test("Coils, stacks: digging, possible with just enough room, not with one place too few", PartTests::digJustEnough);
        test("Coils, stacks: digging, room in its own stack is no help", PartTests::digOwnRoom);
        test("Coils, stacks: digging, the topmost coil needs no room", PartTests::digTopmost);
        test("Coils, stacks: digging, all or none is moved", PartTests::digAllOrNone);
    }

    private static void digTopmostFirst() {
        CoilSlits x = withHeights(0, 0, 0, 3);
        same("dig(0)", 2, x.dig(0));
        sameStack(x, 2, 2);
        sameStack(x, 4, 1);
        sameStack(x, 3, 0);
    }

    private static void digFewest() {
        CoilSlits x = withHeights(2, 1, 1, 1, 1, 0);
        same("dig(0)", 1, x.dig(0));
        sameStack(x, 5, 1);
        sameCounts(x, 4, 1, 5);
        CoilSlits y = withHeights(3, 4, 4, 4, 4, 5);
        same("dig(22)", 1, y.dig(22));
        sameStack(y, 0, 0, 1, 2, 23);
        sameCounts(y, 4, 1, 5);
    }

    private static void digNearest() {
        CoilSlits x = withHeights(0, 2, 2, 2, 1, 0);
        same("dig(4), of 0 and 5", 1, x.dig(4));
        // Stack 3 is 2 away from stack 5, and 3 from stack 0.
        CoilSlits y = withHeights(0, 1, 2, 1, 1, 0);
        same("dig(1), of 0 and 5", 1, y.dig(1));
        sameStack(y, 0, 2);
        sameStack(y, 5);
        sameCounts(y, 4, 1, 2);
    }

    private static void digLowest() {
        CoilSlits x = withHeights(1, 0, 2, 0, 1, 1);
        same("of 1 and 3", 1, x.dig(1));
        sameStack(x, 1, 2);
        CoilSlits y = withHeights(1, 1, 1, 2, 1, 1);
        same("of 2 and 4", 1, y.dig(3));
        sameStack(y, 2, 2, 4);
        CoilSlits z = withHeights(0, 1, 2, 1, 0, 1);
        same("of 0 and 4", 1, z.dig(1));
        sameStack(z, 0, 2);
    }

    private static void digNotItsOwn() {
        CoilSlits x = withHeights(4, 4, 4, 4, 2, 4);
        same("dig(16)", 1, x.dig(16));
        sameStack(x, 3, 12, 13, 14, 15, 17);
        sameStack(x, 4, 16);
    }

    private static void digAnew() {
        CoilSlits x = withHeights(5, 2, 1, 1, 1, 1);
        same("dig(0)", 4, x.dig(0));
        // One to each of 2, 3, 4, 5, as stack 1 has more until then.
        sameStack(x, 2, 7, 4);
        sameStack(x, 3, 8, 3);
        sameStack(x, 4, 9, 2);
        sameStack(x, 5, 10, 1);
        sameCounts(x, 4, 4, 14);
        CoilSlits y = withHeights(0, 0, 0, 0, 0, 5);
        same("dig(0)", 4, y.dig(0));
        sameStack(y, 4, 4);
        sameStack(y, 3, 3);
        sameStack(y, 2, 2);
        sameStack(y, 1, 1);
        sameStack(y, 0);
    }

    private static void digStays() {
        CoilSlits x = withCoils("70g2q3s4;60g1s4");
        x.dig(0);
        sameCoil(x, 0, 70, 2, 3, 4, 0, 0);
        sameCoil(x, 1, 60, 1, 5, 3, 0, 0);
        same("count(0)", 2, x.count(0));
    }

    private static void digJustEnough() {
        CoilSlits x = withHeights(5, 5, 3, 5, 4, 4);
        same("four above, room for four", 4, x.dig(0));
        sameStack(x, 2, 10, 11, 12, 4, 3);
        CoilSlits y = withHeights(5, 5, 4, 5, 4, 4);
        refuses(y, "four above, room for three", STATE, () -> y.dig(0));
        same("three above", 3, y.dig(1));
        CoilSlits z = withHeights(5, 5, 5, 5, 5, 4);
        refuses(z, "two above, room for one", STATE, () -> z.dig(2));
        same("one above, room for one", 1, z.dig(3));
    }

    private static void digOwnRoom() {
        CoilSlits x = withHeights(5, 5, 2, 5, 5, 5);
        refuses(x, "dig(10), room in its own stack alone", STATE, () -> x.dig(10));
        same("dig(11), on top", 0, x.dig(11));
        same("dig(3), room in stack 2", 1, x.dig(3));
    }

    private static void digTopmost() {
        CoilSlits x = withHeights(5, 5, 5, 5, 5, 5);
        for (int stack = 0; stack < 6; stack++) {
            same("dig", 0, x.dig(5 * stack + 4));
            int below = 5 * stack + 3;
            refuses(x, "dig below", STATE, () -> x.dig(below));
        }
        sameCounts(x, 4, 0, 0);
    }

    private static void digAllOrNone() {
        CoilSlits x = withHeights(5, 5, 5, 5, 5, 3);
        refuses(x, "four above, room for two", STATE, () -> x.dig(0));
        sameStack(x, 0, 0, 1, 2, 3, 4);
        sameStack(x, 5, 25, 26, 27);
        sameCounts(x, 4, 0, 0);
        refuses(x, "sendAway, four above", STATE, () -> x.sendAway(0));
        sameStack(x, 5, 25, 26, 27);
    }

    // ---- Orders, slits: what suits

    private static void suiting() {
        test("Orders, slits: orders, at most 8", PartTests::eightOrders);
        test("Orders, slits: orders, numbered in the order in which they came, also those that are gone", PartTests::orderNumbers);
        test("Orders, slits: orders, quality 0 to 9, width 2 to 100, strips 1 to 40, price 1 to 99", PartTests::orderRanges);
        test("Orders, slits: what suits, its grade, neither less nor more", PartTests::suitsGrade);
        test("Orders, slits: what suits, at least its least quality", PartTests::suitsQuality);
        test("Orders, slits: what suits, a strip takes the order's width and setting 1", PartTests::suitsWidth);
        test("Orders, slits: reason 1 comes before all others", PartTests::reasonGrade);
        test("Orders, slits: reason 2 comes before 3 and 4", PartTests::reasonQuality);
        test("Orders, slits: reason 3 comes before 4", PartTests::reasonWidth);
        test("Orders, slits: reason 4 comes last", PartTests::reasonDig);
    }

    private static void eightOrders() {
        CoilSlits x = withCoils("50g0");
        for (int i = 0; i < 8; i++) {
            same("order", i, x.order(i == 5 ? 0 : 1, 0, 10, 1, 1));
        }
        refuses(x, "a ninth", STATE, () -> x.order(0, 0, 10, 1, 1));
        same("cancel(7)", 1, x.cancel(7));
        same("room by cancel", 8, x.order(1, 0, 10, 1, 1));
        refuses(x, "a ninth", STATE, () -> x.order(0, 0, 10, 1, 1));
        same("slit(5, 0)", 1, x.slit(5, 0));
        same("room by slit", 9, x.order(0, 0, 10, 1, 1));
        refuses(x, "a ninth", STATE, () -> x.order(0, 0, 10, 1, 1));
        same("serve(9)", 1, x.serve(9));
        same("room by serve", 10, x.order(0, 0, 10, 1, 1));
        refuses(x, "a ninth", STATE, () -> x.order(0, 0, 10, 1, 1));
        same("count(3)", 8, x.count(3));
    }

    private static void orderNumbers() {
        CoilSlits x = withCoils("100g0");
        x.order(0, 0, 9, 1, 1);
        x.order(0, 0, 9, 1, 1);
        x.serveAll();
        same("behind two that are done", 2, x.order(0, 0, 9, 1, 1));
        x.cancel(2);
        same("behind one that was cancelled", 3, x.order(0, 0, 9, 1, 1));
        sameOrder(x, 0, 3);
        sameOrder(x, 1, NONE);
        refuses(x, "order 2 is gone", INDEX, () -> x.cancel(2));
        refuses(x, "order 0 is gone", INDEX, () -> x.serve(0));
        refuses(x, "order 4 has not come", INDEX, () -> x.choice(4));
    }

    private static void orderRanges() {
        CoilSlits x = new CoilSlits();
        same("all least", 0, x.order(0, 0, 2, 1, 1));
        same("all most", 1, x.order(3, 9, 100, 40, 99));
        int[] least = {0, 0, 2, 1, 1};
        int[] most = {3, 9, 100, 40, 99};
        for (int i = 0; i < 5; i++) {
            for (int bad : new int[] {least[i] - 1, most[i] + 1, Integer.MIN_VALUE, Integer.MAX_VALUE}) {
                int[] a = least.clone();
                a[i] = bad;
                refuses(x, "argument " + i + " as " + bad, ARGUMENT, () -> x.order(a[0], a[1], a[2], a[3], a[4]));
            }
        }
    }

    private static void suitsGrade() {
        CoilSlits x = withCoils("50g0;50g1;50g2;50g3");
        for (int grade = 0; grade < 4; grade++) {
            x.order(grade, 5, 30, 1, 1);
            for (int coil = 0; coil < 4; coil++) {
                same("whyNot(" + grade + ", " + coil + ")", coil == grade ? 0 : 1, x.whyNot(grade, coil));
            }
            same("coils that suit", 1, x.orderOf(grade, 6));
            same("choice", grade, x.choice(grade));
        }
    }

    private static void suitsQuality() {
        CoilSlits x = withCoils("50g0q3;50g0q4;50g0q5;50g0q0;50g0q9");
        x.order(0, 4, 30, 1, 1);
        x.order(0, 0, 30, 1, 1);
        x.order(0, 9, 30, 1, 1);
        int[][] due = {{2, 0, 0, 2, 0}, {0, 0, 0, 0, 0}, {2, 2, 2, 2, 0}};
        for (int order = 0; order < 3; order++) {
            for (int coil = 0; coil < 5; coil++) {
                same("whyNot(" + order + ", " + coil + ")", due[order][coil], x.whyNot(order, coil));
            }
        }
        same("coils that suit", 3, x.orderOf(0, 6));
    }

    private static void suitsWidth() {
        for (int loss = 0; loss < 6; loss++) {
            CoilSlits x = withCoils("100g0;101g0;102g0;103g0;104g0;105g0");
            x.set(1, loss);
            x.order(0, 0, 100, 1, 1);
            for (int coil = 0; coil < 6; coil++) {
                same("whyNot(0, " + coil + ") of loss " + loss, coil < loss ? 3 : 0, x.whyNot(0, coil));
            }
            same("coils that suit", 6 - loss, x.orderOf(0, 6));
            same("strips that fit", 6 - loss, x.orderOf(0, 7));
        }
        CoilSlits y = withCoils("2g0;3g0;1g0");
        y.order(0, 0, 2, 1, 1);
        same("2 for a strip of 2 and 1", 3, y.whyNot(0, 0));
        same("3 for a strip of 2 and 1", 0, y.whyNot(0, 1));
        y.set(1, 0);
        same("2 for a strip of 2", 0, y.whyNot(0, 0));
        same("1 for a strip of 2", 3, y.whyNot(0, 2));
    }

    /** Coil 0 lies under four, and no stack has room. */
    private static CoilSlits buried(int width, int grade, int quality) {
        CoilSlits x = new CoilSlits();
        x.receive(width, grade, quality, 0);
        for (int i = 1; i < 30; i++) {
            x.receive(50, 0, 5, i / 5);
        }
        return x;
    }

    private static void reasonGrade() {
        CoilSlits x = buried(20, 1, 3);
        x.order(0, 5, 30, 1, 1);
        same("all four", 1, x.whyNot(0, 0));
        CoilSlits y = withCoils("50g1q9");
        y.order(0, 5, 30, 1, 1);
        same("1 alone", 1, y.whyNot(0, 0));
    }

    private static void reasonQuality() {
        CoilSlits x = buried(20, 0, 3);
        x.order(0, 5, 30, 1, 1);
        same("2, 3, 4", 2, x.whyNot(0, 0));
        CoilSlits y = withCoils("50g0q4");
        y.order(0, 5, 30, 1, 1);
        same("2 alone", 2, y.whyNot(0, 0));
    }

    private static void reasonWidth() {
        CoilSlits x = buried(30, 0, 5);
        x.order(0, 5, 30, 1, 1);
        same("3 and 4", 3, x.whyNot(0, 0));
        CoilSlits y = withCoils("30g0q5");
        y.order(0, 5, 30, 1, 1);
        same("3 alone", 3, y.whyNot(0, 0));
    }

    private static void reasonDig() {
        CoilSlits x = buried(31, 0, 5);
        x.order(0, 5, 30, 1, 1);
        same("4 alone", 4, x.whyNot(0, 0));
        x.sendAway(29);
        x.sendAway(28);
        x.sendAway(24);
        same("room for three", 4, x.whyNot(0, 0));
        same("room for three of three", 0, x.whyNot(0, 1));
        x.sendAway(23);
        same("room for four", 0, x.whyNot(0, 0));
    }

    // ---- Orders, slits: what is slit

    private static void slitting() {
        test("Orders, slits: to slit, as many strips as fit, if more are still to be cut", PartTests::slitFits);
        test("Orders, slits: to slit, as many strips as are still to be cut, if more fit", PartTests::slitStill);
        test("Orders, slits: to slit, just as many fit as are still to be cut", PartTests::slitBoth);
        test("Orders, slits: to slit, a rest of just setting 0 goes back, one less is scrap", PartTests::restAtSetting);
        test("Orders, slits: to slit, setting 0 of 1, a rest of 1 and a rest of 0", PartTests::restOfOne);
        test("Orders, slits: to slit, setting 0 of 100, a rest of 100 and a rest of 99", PartTests::restOfHundred);
        test("Orders, slits: to slit, the rest's quality is less by setting 2, but not less than 0", PartTests::restQuality);
        test("Orders, slits: to slit, the rest has its grade, and is a rest", PartTests::restIsNew);
        test("Orders, slits: to slit, the rest goes on top of the stack from which it was taken", PartTests::restPlace);
        test("Orders, slits: to slit, in a full yard the rest finds the room that the coil left", PartTests::restInFullYard);
        test("Orders, slits: to slit, an order is gone when no strip is still to be cut, not before", PartTests::orderDone);
        test("Orders, slits: to slit, the orders behind one that is gone move up", PartTests::ordersMoveUp);
        test("Orders, slits: to slit, the widths add up", PartTests::widthsAddUp);
    }

    private static void slitFits() {
        CoilSlits x = withCoils("93g0s0;92g0s1");
        x.order(0, 0, 30, 40, 1);
        same("93 of 31", 3, x.slit(0, 0));
        sameCounts(x, 6, 3, 90, 3, 0);
        same("92 of 31", 2, x.slit(0, 1));
        same("still to be cut", 35, x.orderOf(0, 4));
        sameCoil(x, 2, 30, 0, 4, 1, 0, 1);
    }

    private static void slitStill() {
        CoilSlits x = withCoils("200g0");
        x.order(0, 0, 9, 19, 1);
        same("20 fit, 19 are still to be cut", 19, x.slit(0, 0));
        sameCounts(x, 6, 19, 171, 19, 10);
        CoilSlits y = withCoils("200g0");
        y.order(0, 0, 9, 1, 1);
        same("one is still to be cut", 1, y.slit(0, 0));
        sameCoil(y, 1, 190, 0, 4, 0, 0, 1);
    }

    private static void slitBoth() {
        CoilSlits x = withCoils("200g0");
        x.order(0, 0, 9, 20, 1);
        same("20 fit, 20 are still to be cut", 20, x.slit(0, 0));
        same("the order is done", 0, x.count(3));
        sameCounts(x, 0, 0, 0, 0, 0, 0, 0, 20, 180, 20, 0, 20);
        CoilSlits y = withCoils("200g0");
        y.set(1, 0);
        y.order(0, 0, 5, 40, 99);
        same("40 of 40", 40, y.slit(0, 0));
        sameCounts(y, 6, 40, 200, 0, 0, 3960);
    }

    private static void restAtSetting() {
        CoilSlits x = withCoils("51g0s0;50g0s1");
        x.order(0, 0, 30, 2, 1);
        x.slit(0, 0);
        sameCoil(x, 2, 20, 0, 4, 0, 0, 1);
        same("no scrap", 0, x.count(9));
        x.slit(0, 1);
        same("19 are scrap", 19, x.count(9));
        sameStack(x, 1);
        refuses(x, "no coil 3", INDEX, () -> x.coil(3, 0));
    }

    private static void restOfOne() {
        CoilSlits x = withCoils("32g0s0;31g0s1");
        x.set(0, 1);
        x.order(0, 0, 30, 2, 1);
        x.slit(0, 0);
        sameCoil(x, 2, 1, 0, 4, 0, 0, 1);
        x.slit(0, 1);
        sameCounts(x, 0, 1, 1, 1, 0, 0, 0, 2, 60, 2, 0);
        sameStack(x, 1);
        same("the next number", 3, x.receive(1, 0, 0, 0));
    }

    private static void restOfHundred() {
        CoilSlits x = withCoils("131g0s0;130g0s1");
        x.set(0, 100);
        x.order(0, 0, 30, 1, 1);
        x.order(0, 0, 30, 1, 1);
        x.slit(0, 0);
        sameCoil(x, 2, 100, 0, 4, 0, 0, 1);
        x.slit(1, 1);
        same("99 are scrap", 99, x.count(9));
        same("count(0)", 1, x.count(0));
    }

    private static void restQuality() {
        int[][] cases = {{5, 1, 4}, {1, 1, 0}, {0, 1, 0}, {9, 9, 0}, {8, 9, 0}, {9, 8, 1}, {7, 0, 7}, {0, 0, 0}};
        for (int[] c : cases) {
            CoilSlits x = new CoilSlits();
            x.set(2, c[1]);
            x.receive(100, 2, c[0], 3);
            x.order(2, 0, 30, 1, 1);
            x.slit(0, 0);
            sameCoil(x, 1, 69, 2, c[2], 3, 0, 1);
        }
    }

    private static void restIsNew() {
        CoilSlits x = withCoils("100g3q9s2");
        x.order(3, 0, 9, 1, 1);
        x.order(3, 0, 9, 1, 1);
        x.slit(0, 0);
        sameCoil(x, 0, NONE, NONE, NONE, NONE, NONE, NONE);
        sameCoil(x, 1, 90, 3, 8, 2, 0, 1);
        x.slit(1, 1);
        sameCoil(x, 1, NONE, NONE, NONE, NONE, NONE, NONE);
        sameCoil(x, 2, 80, 3, 7, 2, 0, 1);
        same("one rest", 1, x.count(2));
        same("a rest was not received", 100, x.count(11));
    }

    private static void restPlace() {
        CoilSlits x = withCoils("100g1s5;100g0s5;100g1s5");
        x.order(0, 0, 9, 1, 1);
        x.slit(0, 1);
        sameStack(x, 5, 0, 3);
        sameStack(x, 4, 2);
        sameCoil(x, 3, 90, 0, 4, 5, 0, 1);
        CoilSlits y = withCoils("100g0s0;100g1s0;100g1s0");
        y.order(0, 0, 9, 1, 1);
        y.slit(0, 0);
        sameStack(y, 0, 3);
    }

    private static void restInFullYard() {
        CoilSlits x = withHeights(5, 5, 5, 5, 5, 5);
        x.order(0, 0, 9, 1, 1);
        same("slit(0, 14)", 1, x.slit(0, 14));
        sameStack(x, 2, 10, 11, 12, 13, 30);
        same("count(0)", 30, x.count(0));
    }

    private static void orderDone() {
        CoilSlits x = withCoils("62g0s0;62g0s1");
        x.order(0, 0, 30, 3, 1);
        same("two of three", 2, x.slit(0, 0));
        sameOrder(x, 0, 0, 0, 0, 30, 1, 1);
        same("the last one", 1, x.slit(0, 1));
        sameOrder(x, 0, NONE);
        refuses(x, "cancel(0), gone", INDEX, () -> x.cancel(0));
        refuses(x, "slit(0, 2), gone", INDEX, () -> x.slit(0, 2));
        refuses(x, "serve(0), gone", INDEX, () -> x.serve(0));
        refuses(x, "choice(0), gone", INDEX, () -> x.choice(0));
        refuses(x, "whyNot(0, 2), gone", INDEX, () -> x.whyNot(0, 2));
        refuses(x, "ifServed(0, 0, 0), gone", INDEX, () -> x.ifServed(0, 0, 0));
    }

    private static void ordersMoveUp() {
        CoilSlits x = withCoils("50g0");
        x.order(0, 0, 30, 1, 1);
        x.order(1, 2, 31, 3, 4);
        x.order(2, 3, 32, 4, 5);
        x.slit(0, 0);
        sameOrder(x, 0, 1, 1, 2, 31, 3, 4, 0, 0);
        sameOrder(x, 1, 2, 2, 3, 32, 4, 5, 0, 0);
        sameOrder(x, 2, NONE);
        same("cancel(2)", 4, x.cancel(2));
        sameOrder(x, 0, 1, 1, 2, 31, 3, 4, 0, 0);
        sameOrder(x, 1, NONE);
    }

    private static void widthsAddUp() {
        CoilSlits x = withCoils("200g0s0;150g0s1;77g0s2;60g1s3");
        x.set(1, 3);
        x.order(0, 0, 30, 9, 2);
        x.serve(0);
        x.sendAway(3);
        // By the least rest: 77 = 2 * 33 + 11, then 200 = 6 * 33 + 2, then 150 - 1 * 33 = 117.
        sameCounts(x, 0, 1, 117, 1, 0, 0, 0, 9, 270, 27, 13, 18, 487, 60);
    }

    // ---- Orders, slits: what is served

    private static void serving() {
        test("Orders, slits: to serve, as long as it is not done", PartTests::serveUntilDone);
        test("Orders, slits: to serve, as long as a coil suits", PartTests::serveWhileSuits);
        test("Orders, slits: to serve, the rest that one order leaves serves the next", PartTests::serveRests);
        test("Orders, slits: to serve, a rest that has become too poor does not", PartTests::servePoorRests);
        test("Orders, slits: to serve, 4, too, does not apply", PartTests::serveNotBuried);
        test("Orders, slits: to serve, rule 0, the least rest, if it was slit now", PartTests::serveLeastRest);
        test("Orders, slits: to serve, rule 0, a rest that would be scrap counts as wide as it is", PartTests::serveScrapRest);
        test("Orders, slits: to serve, rule 1, the fewest coils above it", PartTests::serveFewestAbove);
        test("Orders, slits: to serve, rule 2, the least quality", PartTests::serveLeastQuality);
        test("Orders, slits: to serve, of several the lowest number, wherever it lies", PartTests::serveLowestNumber);
    }

    private static void serveUntilDone() {
        CoilSlits x = withCoils("31g0;31g0;31g0;31g0");
        x.order(0, 0, 30, 3, 1);
        same("serve(0)", 3, x.serve(0));
        sameCounts(x, 0, 1, 31, 0, 0);
        same("coil(3, 0)", 31, x.coil(3, 0));
    }

    private static void serveWhileSuits() {
        CoilSlits x = withCoils("31g0;30g0;31g1;31g0q4;62g0");
        x.order(0, 5, 30, 4, 1);
        same("three of four", 3, x.serve(0));
        sameOrder(x, 0, 0, 0, 5, 30, 1, 1, 0, 0);
        same("none suits", 0, x.serve(0));
        same("count(0)", 3, x.count(0));
    }

    private static void serveRests() {
        // 10 * 11 of 200 leave 90 of quality 8, and 2 * 41 of these leave 8.
        CoilSlits x = withCoils("200g0q9");
        x.order(0, 8, 10, 10, 5);
        x.order(0, 8, 40, 2, 4);
        same("serveAll", 2, x.serveAll());
        sameCounts(x, 0, 0, 0, 0, 0, 0, 0, 12, 180, 12, 8);
    }

    private static void servePoorRests() {
        CoilSlits x = withCoils("100g0q5");
        x.order(0, 5, 10, 1, 5);
        x.order(0, 5, 10, 1, 4);
        same("serveAll", 1, x.serveAll());
        same("whyNot(1, 1)", 2, x.whyNot(1, 1));
        x.undo();
        x.set(2, 0);
        same("serveAll, nothing is lost", 2, x.serveAll());
    }

    private static void serveNotBuried() {
        CoilSlits x = buried(200, 3, 9);
        x.order(3, 0, 30, 1, 1);
        same("serve(0)", 0, x.serve(0));
        same("choice(0)", NONE, x.choice(0));
        same("it would suit", 1, x.orderOf(0, 6));
        for (int coil = 29; coil > 25; coil--) {
            x.sendAway(coil);
        }
        same("choice(0), room for four", 0, x.choice(0));
        same("serve(0), room for four", 1, x.serve(0));
    }

    private static void serveLeastRest() {
        CoilSlits x = withCoils("93g0s0;94g0s1;62g0s2;65g0s3");
        x.order(0, 0, 30, 3, 1);
        // Rests with three still to be cut: 0, 1, 0, 3.
        same("three still", 0, x.choice(0));
        x.cancel(0);
        x.order(0, 0, 30, 2, 1);
        same("two still: 31, 32, 0, 3", 2, x.choice(1));
        x.sendAway(2);
        same("two still: 31, 32, 3", 3, x.choice(1));
        x.cancel(1);
        x.order(0, 0, 30, 1, 1);
        same("one still: 62, 63, 34", 3, x.choice(2));
    }

    private static void serveScrapRest() {
        CoilSlits x = withCoils("51g0s0;50g0s1");
        x.order(0, 0, 30, 1, 1);
        same("19 is less than 20, though it is scrap", 1, x.choice(0));
    }

    private static void serveFewestAbove() {
        CoilSlits x = withCoils("31g0s0;9g1s0;9g1s0;90g0s1;9g1s1;80g0s2;9g1s2;9g1s2");
        x.set(3, 1);
        x.order(0, 0, 30, 1, 1);
        same("two, one, two", 3, x.choice(0));
        x.sendAway(4);
        same("none above", 3, x.choice(0));
        x.sendAway(3);
        same("two and two", 0, x.choice(0));
    }

    private static void serveLeastQuality() {
        CoilSlits x = withCoils("31g0q9s0;90g0q3s1;9g1s1;80g0q4s2;70g0q2s3");
        x.set(3, 2);
        x.order(0, 3, 30, 1, 1);
        same("the least that suits", 1, x.choice(0));
        x.sendAway(1);
        same("then 4", 3, x.choice(0));
        x.sendAway(3);
        same("then 9", 0, x.choice(0));
    }

    private static void serveLowestNumber() {
        for (int rule = 0; rule < 3; rule++) {
            CoilSlits x = withCoils("40g0s5;40g0s3;40g0s0");
            x.set(3, rule);
            x.order(0, 0, 30, 2, 1);
            same("by rule " + rule, 0, x.choice(0));
            same("serve(0)", 2, x.serve(0));
            sameStack(x, 0, 2);
            sameStack(x, 3);
            sameStack(x, 5);
        }
        CoilSlits y = withCoils("40g0s1;40g0s1;40g0s1");
        y.order(0, 0, 30, 1, 1);
        same("the lowest number, though it lies under two", 0, y.choice(0));
        y.serve(0);
        sameCounts(y, 4, 2, 2);
    }

    // ---- Settings

    private static void settings() {
        test("Settings: at first 20, 1, 1, 0", PartTests::settingsAtFirst);
        test("Settings: 0, the least rest, 1 to 100", () -> settingRange(0, 20, 1, 100));
        test("Settings: 1, what is lost at a strip, 0 to 5", () -> settingRange(1, 1, 0, 5));
        test("Settings: 2, what quality a rest loses, 0 to 9", () -> settingRange(2, 1, 0, 9));
        test("Settings: 3, the rule, 0 to 2", () -> settingRange(3, 0, 0, 2));
        test("Settings: 0 to 3, and no others", PartTests::settingNumbers);
        test("Settings: what is lost at a strip counts for what is cut afterwards", PartTests::settingsLater);
    }

    private static void settingsAtFirst() {
        CoilSlits x = new CoilSlits();
        same("setting(0)", 20, x.setting(0));
        same("setting(1)", 1, x.setting(1));
        same("setting(2)", 1, x.setting(2));
        same("setting(3)", 0, x.setting(3));
    }

    private static void settingRange(int setting, int first, int least, int most) {
        CoilSlits x = new CoilSlits();
        same("the first", first, x.set(setting, least));
        for (int value = least + 1; value <= most; value++) {
            same("the previous", value - 1, x.set(setting, value));
            same("the setting", value, x.setting(setting));
        }
        for (int bad : new int[] {least - 1, most + 1, Integer.MIN_VALUE, Integer.MAX_VALUE}) {
            refuses(x, "value " + bad, ARGUMENT, () -> x.set(setting, bad));
        }
        same("back to the least", most, x.set(setting, least));
        for (int other = 0; other < 4; other++) {
            int due = other == setting ? least : new int[] {20, 1, 1, 0}[other];
            same("setting(" + other + ")", due, x.setting(other));
        }
    }

    private static void settingNumbers() {
        CoilSlits x = new CoilSlits();
        for (int bad : new int[] {-1, 4, Integer.MIN_VALUE, Integer.MAX_VALUE}) {
            refuses(x, "set " + bad, INDEX, () -> x.set(bad, 1));
            refuses(x, "setting " + bad, INDEX, () -> x.setting(bad));
        }
    }

    private static void settingsLater() {
        CoilSlits x = withCoils("100g0s0;100g0s1");
        x.order(0, 0, 20, 9, 1);
        same("100 of 21", 4, x.slit(0, 0));
        x.set(1, 5);
        same("what was lost stays", 4, x.count(8));
        same("100 of 25", 4, x.slit(0, 1));
        sameCounts(x, 6, 8, 160, 24, 16);
    }

    // ---- Input text

    private static void inputText() {
        test("Input text: at most 60 characters", PartTests::sixtyCharacters);
        test("Input text: which characters may come where", PartTests::whichCharacters);
        test("Input text: each width from 1 to 200, none above", PartTests::eachWidth);
        test("Input text: no leading zero", PartTests::noLeadingZero);
        test("Input text: g and a grade, 0 to 3", PartTests::eachGrade);
        test("Input text: perhaps q and a quality, 0 to 9, 5 without it", PartTests::eachQuality);
        test("Input text: perhaps s and a stack, 0 to 5", PartTests::eachStack);
        test("Input text: without a stack the one with the fewest coils, of several the lowest", PartTests::noStack);
        test("Input text: one or more parts with ; between them", PartTests::parts);
        test("Input text: a part that is not complete is no syntax error", PartTests::notComplete);
        test("Input text: of any length, also beyond 60 characters", PartTests::anyLength);
        test("Input text: behind the first error nothing matters", PartTests::behindError);
    }

    private static void sixtyCharacters() {
        CoilSlits x = new CoilSlits();
        for (int i = 1; i <= 60; i++) {
            same("append", i, x.append(i == 60 ? '3' : i % 4 == 0 ? ';' : i % 4 == 2 ? 'g' : '1'));
        }
        refuses(x, "the 61st", STATE, () -> x.append('q'));
        refuses(x, "the 61st again", STATE, () -> x.append('q'));
        same("clearBuffer", 60, x.clearBuffer());
        same("room again", 1, x.append('q'));
    }

    /** For a text without an error: just these characters may follow it. */
    private static void follows(String text, String allowed) {
        CoilSlits x = typed(text);
        same("firstError() of " + text, text.length(), x.firstError());
        for (char c = 33; c < 127; c++) {
            CoilSlits y = typed(text + c);
            int due = allowed.indexOf(c) >= 0 ? text.length() + 1 : text.length();
            same("firstError() of " + text + c, due, y.firstError());
        }
    }

    private static void whichCharacters() {
        follows("", "123456789");
        follows("1", "0123456789g");
        follows("2", "0123456789g");
        follows("9", "0123456789g");
        follows("10", "0123456789g");
        follows("19", "0123456789g");
        follows("20", "0g");
        follows("21", "g");
        follows("99", "g");
        follows("100", "g");
        follows("200", "g");
        follows("7g", "0123");
        follows("7g3", ";qs");
        follows("7g3q", "0123456789");
        follows("7g3q0", ";s");
        follows("7g3s", "012345");
        follows("7g3s5", ";");
        follows("7g3q9s", "012345");
        follows("7g3q9s0", ";");
        follows("7g3;", "123456789");
        follows("7g3;2", "0123456789g");
        follows("7g3;20", "0g");
        follows("7g3;5g", "0123");
        follows("7g3;5g0", ";qs");
    }

    private static void eachWidth() {
        for (int width = 1; width <= 999; width++) {
            CoilSlits x = typed(width + "g0");
            if (width <= 200) {
                same("receiveAll() of " + width, 1, x.receiveAll());
                same("width", width, x.coil(0, 0));
            } else {
                same("firstError() of " + width, 2, x.firstError());
                refuses(x, "receiveAll() of " + width, ARGUMENT, () -> x.receiveAll());
            }
        }
        same("2000", 3, typed("2000g0").firstError());
        same("1000", 3, typed("1000g0").firstError());
        same("4294967297, that wraps around to 1", 2, typed("4294967297g0").firstError());
    }

    private static void noLeadingZero() {
        same("0", 0, typed("0g0").firstError());
        same("00", 0, typed("00g0").firstError());
        same("01", 0, typed("01g0").firstError());
        same("007", 0, typed("007g0").firstError());
        same("in the second part", 4, typed("1g0;01g0").firstError());
        same("10 and 100 and 200 have none", 16, typed("10g0;100g0;200g0").firstError());
        refuses(typed("01g0"), ARGUMENT);
        refuses(typed("0"), ARGUMENT);
    }

    private static void refuses(CoilSlits x, Class<? extends RuntimeException> due) {
        refuses(x, "receiveAll()", due, () -> x.receiveAll());
    }

    private static void eachGrade() {
        for (int grade = 0; grade < 4; grade++) {
            CoilSlits x = withCoils("9g" + grade);
            sameCoil(x, 0, 9, grade, 5, 0, 0, 0);
        }
        same("grade 4", 2, typed("9g4").firstError());
        same("grade 9", 2, typed("9g9").firstError());
        same("a grade of two digits", 3, typed("9g00").firstError());
        same("no grade", 2, typed("9gq5").firstError());
        same("no g", 1, typed("9;").firstError());
        same("a large G", 1, typed("9G0").firstError());
    }

    private static void eachQuality() {
        for (int quality = 0; quality < 10; quality++) {
            CoilSlits x = withCoils("9g1q" + quality + ";8g1;7g1q" + quality + "s5");
            sameCoil(x, 0, 9, 1, quality, 0, 0, 0);
            sameCoil(x, 1, 8, 1, 5, 1, 0, 0);
            sameCoil(x, 2, 7, 1, quality, 5, 0, 0);
        }
        same("a quality of two digits", 5, typed("9g1q10").firstError());
        same("no quality", 4, typed("9g1qs0").firstError());
        same("two qualities", 5, typed("9g1q1q1").firstError());
    }

    private static void eachStack() {
        for (int stack = 0; stack < 6; stack++) {
            CoilSlits x = withCoils("9g1s" + stack + ";8g1q2s" + stack);
            sameStack(x, stack, 0, 1);
            sameCoil(x, 0, 9, 1, 5, stack, 1, 0);
            sameCoil(x, 1, 8, 1, 2, stack, 0, 0);
        }
        same("stack 6", 4, typed("9g1s6").firstError());
        same("stack 9", 4, typed("9g1s9").firstError());
        same("no stack", 4, typed("9g1s;").firstError());
        same("quality behind stack", 5, typed("9g1s1q1").firstError());
        same("two stacks", 5, typed("9g1s1s1").firstError());
    }

    private static void noStack() {
        CoilSlits x = withHeights(1, 1, 0, 1, 0, 1);
        type(x, "9g0;8g0;7g0;6g0");
        same("receiveAll()", 4, x.receiveAll());
        sameStack(x, 2, 4);
        sameStack(x, 4, 5);
        sameStack(x, 0, 0, 6);
        sameStack(x, 1, 1, 7);
    }

    private static void parts() {
        CoilSlits x = typed("9g0");
        same("one part", 1, x.receiveAll());
        type(x, "1g0;1g1;1g2;1g3;2g0;2g1;2g2;2g3;3g0;3g1;3g2;3g3;4g0;4g1;4g2");
        same("15 parts of 59 characters", 15, x.receiveAll());
        sameCounts(x, 0, 16);
        same("an empty part", 4, typed("9g0;;9g0").firstError());
        same("an empty first part", 0, typed(";9g0").firstError());
        refuses(typed("9g0;"), ARGUMENT);
        refuses(typed(";"), ARGUMENT);
        refuses(typed(""), ARGUMENT);
        same("another sign between them", 3, typed("9g0,9g0").firstError());
    }

    private static void notComplete() {
        String whole = "200g3q9s5;19g0s1;7g2q0;5g1";
        String complete = ",5,7,9,14,16,20,22,26,";
        for (int length = 0; length <= whole.length(); length++) {
            CoilSlits x = typed(whole.substring(0, length));
            same("firstError() of " + length, length, x.firstError());
            if (complete.contains("," + length + ",")) {
                int due = length < 10 ? 1 : length < 17 ? 2 : length < 23 ? 3 : 4;
                same("receiveAll() of " + length, due, x.receiveAll());
            } else {
                refuses(x, ARGUMENT);
                same("the buffer stays", length, x.clearBuffer());
            }
        }
    }

    private static void anyLength() {
        StringBuilder text = new StringBuilder();
        for (int i = 0; i < 15; i++) {
            text.append("1g0;");
        }
        CoilSlits x = typed(text.toString());
        same("no error, though the last part does not fit in", 60, x.firstError());
        refuses(x, ARGUMENT);
        CoilSlits y = typed(text.substring(0, 56) + "200g");
        same("no error, though the grade does not fit in", 60, y.firstError());
        refuses(y, ARGUMENT);
        CoilSlits z = typed(text.substring(0, 56) + "9g0s");
        same("no error, though the stack does not fit in", 60, z.firstError());
        refuses(z, ARGUMENT);
        CoilSlits w = typed(text.substring(0, 56) + "20g0");
        same("complete in 60", 60, w.firstError());
        same("receiveAll()", 15, w.receiveAll());
        CoilSlits v = typed(text.substring(0, 56) + "9g0q");
        v.clearBuffer();
        same("an error in the last place", 59, typed(text.substring(0, 56) + "9g0x").firstError());
    }

    private static void behindError() {
        same("the first of several", 1, typed("1x;0;;").firstError());
        same("a whole part behind it", 3, typed("1g0x;2g0").firstError());
        CoilSlits x = typed("1g0;2g0x;3g0");
        refuses(x, ARGUMENT);
        same("nothing is received", 0, x.count(0));
        same("clearBuffer()", 12, x.clearBuffer());
    }

    // ---- Undo

    private static void undoing() {
        test("Undo: at most 6 states are saved", PartTests::sixStates);
        test("Undo: the oldest one is dropped first", PartTests::oldestDropped);
        test("Undo: restores the latest saved state, and drops it", PartTests::latestFirst);
        test("Undo: what comes behind an undo is saved anew", PartTests::savedAnew);
        test("Undo: a call that changes nothing saves, too", PartTests::nothingChangedIsSaved);
        test("Undo: each undoable method saves one state", PartTests::eachSavesOne);
        test("Undo: no other method saves a state", PartTests::othersSaveNone);
        test("Undo: restores all that is counted", PartTests::countsRestored);
        test("Undo: restores coils, orders and settings", PartTests::stateRestored);
        test("Undo: restores the next numbers", PartTests::numbersRestored);
        test("Undo: does not restore the buffer", PartTests::bufferStays);
        test("Undo: a call that throws saves nothing", PartTests::refusedSavesNothing);
    }

    private static void sixStates() {
        CoilSlits x = new CoilSlits();
        int[] due = {1, 2, 3, 4, 5, 6, 6, 6, 6, 6, 6, 6, 6, 6};
        for (int i = 0; i < due.length; i++) {
            x.set(0, i + 1);
            same("count(13) behind " + (i + 1), due[i], x.count(13));
        }
        for (int left = 5; left >= 0; left--) {
            same("undo()", left, x.undo());
            same("count(13)", left, x.count(13));
        }
        refuses(x, "a seventh undo", STATE, () -> x.undo());
    }

    private static void oldestDropped() {
        for (int calls = 5; calls <= 15; calls++) {
            CoilSlits x = new CoilSlits();
            for (int i = 1; i <= calls; i++) {
                x.set(0, 20 + i);
            }
            int saved = Math.min(calls, 6);
            for (int i = 1; i <= saved; i++) {
                same("undo()", saved - i, x.undo());
                same("setting(0)", 20 + calls - i, x.setting(0));
            }
            refuses(x, "undo()", STATE, () -> x.undo());
        }
    }

    private static void latestFirst() {
        CoilSlits x = new CoilSlits();
        x.receive(10, 0, 0, 0);
        x.receive(20, 0, 0, 1);
        x.move(0, 1);
        same("undo of move", 2, x.undo());
        sameStack(x, 0, 0);
        sameStack(x, 1, 1);
        same("undo of receive", 1, x.undo());
        sameStack(x, 1);
        same("undo of the first receive", 0, x.undo());
        same("count(0)", 0, x.count(0));
        refuses(x, "undo of nothing", STATE, () -> x.undo());
    }

    private static void savedAnew() {
        CoilSlits x = new CoilSlits();
        for (int i = 1; i <= 8; i++) {
            x.set(0, i);
        }
        x.undo();
        x.undo();
        x.undo();
        same("back at 5", 5, x.setting(0));
        for (int i = 51; i <= 54; i++) {
            x.set(0, i);
        }
        same("count(13)", 6, x.count(13));
        for (int due : new int[] {53, 52, 51, 5, 4, 3}) {
            x.undo();
            same("setting(0)", due, x.setting(0));
        }
        refuses(x, "undo()", STATE, () -> x.undo());
    }

    private static void nothingChangedIsSaved() {
        CoilSlits x = withCoils("50g0");
        x.order(1, 0, 30, 1, 1);
        undoable(x, "set to the same", 20, () -> x.set(0, 20));
        x.undo();
        undoable(x, "dig with none above", 0, () -> x.dig(0));
        x.undo();
        undoable(x, "serve without a coil", 0, () -> x.serve(0));
        x.undo();
        undoable(x, "serveAll without a coil", 0, () -> x.serveAll());
        CoilSlits y = new CoilSlits();
        undoable(y, "serveAll without an order", 0, () -> y.serveAll());
        CoilSlits z = withHeights(2);
        type(z, "9g0s0;9g0s0;9g0s0;9g0s0");
        same("receiveAll, one too many", 3, z.receiveAll());
        type(z, "9g0s0");
        same("receiveAll, none", 0, z.receiveAll());
        same("saved, too", 4, z.count(13));
        same("undo", 3, z.undo());
        same("five coils before and behind", 5, z.count(0));
        same("undo", 2, z.undo());
        same("two coils", 2, z.count(0));
    }

    private static void eachSavesOne() {
        CoilSlits x = withCoils("99g0s0;98g0s0;97g1s1;96g2s2");
        x.undo();
        type(x, "99g0s0;98g0s0;97g1s1;96g2s2");
        same("receiveAll", 4, x.receiveAll());
        same("one state for four coils", 1, x.count(13));
        undoable(x, "receive", 4, () -> x.receive(95, 3, 9, 5));
        x.undo();
        undoable(x, "move", 1, () -> x.move(0, 4));
        x.undo();
        undoable(x, "dig", 1, () -> x.dig(0));
        x.undo();
        undoable(x, "sendAway", 99, () -> x.sendAway(0));
        x.undo();
        undoable(x, "order", 0, () -> x.order(0, 0, 30, 4, 1));
        undoable(x, "cancel", 4, () -> x.cancel(0));
        x.undo();
        undoable(x, "slit, with one above", 3, () -> x.slit(0, 0));
        x.undo();
        undoable(x, "serve, with two coils", 4, () -> x.serve(0));
        x.undo();
        x.order(1, 0, 30, 1, 1);
        undoable(x, "serveAll, with two orders", 2, () -> x.serveAll());
        x.undo();
        undoable(x, "set", 0, () -> x.set(3, 2));
    }

    private static void othersSaveNone() {
        CoilSlits x = withCoils("50g0");
        x.order(0, 0, 30, 1, 1);
        same("two so far", 2, x.count(13));
        type(x, "9g0");
        x.firstError();
        x.clearBuffer();
        x.at(0, 0);
        x.coil(0, 0);
        x.orderOf(0, 0);
        x.whyNot(0, 0);
        x.count(0);
        x.setting(0);
        x.choice(0);
        x.ifServed(0, 0, 0);
        x.bestRule();
        x.bestStack();
        x.used();
        x.digest();
        same("still two", 2, x.count(13));
        same("undo", 1, x.undo());
        same("undo is not undoable", 1, x.count(13));
    }

    private static void countsRestored() {
        CoilSlits x = withCoils("99g0s0;98g0s0;50g1s1;60g0s2");
        x.order(0, 0, 30, 2, 7);
        x.order(1, 0, 10, 2, 3);
        x.slit(0, 0);
        x.set(0, 30);
        x.serveAll();
        x.sendAway(3);
        x.receive(200, 0, 0, 0);
        sameCounts(x, 0, 3, 335, 1, 0, 1, 3, 4, 80, 4, 28, 20, 507, 60, 6);
        for (int i = 0; i < 5; i++) {
            x.undo();
        }
        sameCounts(x, 0, 4, 307, 0, 2, 0, 0, 0, 0, 0, 0, 0, 307, 0, 1);
    }

    private static void stateRestored() {
        CoilSlits x = withCoils("99g0q7s0;98g3q2s0;50g1s1");
        x.order(0, 3, 30, 5, 7);
        x.set(0, 9);
        x.slit(0, 0);
        x.set(0, 50);
        x.cancel(0);
        x.undo();
        sameOrder(x, 0, 0, 0, 3, 30, 2, 7);
        x.undo();
        same("setting(0)", 9, x.setting(0));
        x.undo();
        sameCoil(x, 0, 99, 0, 7, 0, 1, 0);
        sameCoil(x, 1, 98, 3, 2, 0, 0, 0);
        sameOrder(x, 0, 0, 0, 3, 30, 5, 7);
        sameStack(x, 0, 0, 1);
        sameStack(x, 2);
        x.undo();
        same("setting(0)", 20, x.setting(0));
        x.undo();
        same("orderOf(0, 0)", NONE, x.orderOf(0, 0));
    }

    private static void numbersRestored() {
        CoilSlits x = new CoilSlits();
        same("receive", 0, x.receive(99, 0, 5, 0));
        x.undo();
        refuses(x, "no coil has had the number 0", INDEX, () -> x.coil(0, 0));
        same("receive again", 0, x.receive(98, 0, 5, 0));
        same("order", 0, x.order(0, 0, 30, 1, 1));
        x.undo();
        same("order again", 0, x.order(0, 0, 30, 1, 1));
        x.slit(0, 0);
        same("the rest", 67, x.coil(1, 0));
        x.undo();
        refuses(x, "no coil has had the number 1", INDEX, () -> x.coil(1, 0));
        same("the next coil", 1, x.receive(9, 0, 0, 0));
    }

    private static void bufferStays() {
        CoilSlits x = typed("50g0");
        x.receiveAll();
        type(x, "7g");
        x.undo();
        same("as it was before the undo", 2, x.clearBuffer());
        x.receive(9, 0, 0, 0);
        type(x, "7g1");
        x.undo();
        same("firstError()", 3, x.firstError());
        same("receiveAll()", 1, x.receiveAll());
        x.undo();
        same("receiveAll() cleared it, undo does not bring it back", 0, x.clearBuffer());
    }

    private static void refusedSavesNothing() {
        CoilSlits x = new CoilSlits();
        for (int i = 1; i <= 8; i++) {
            x.set(0, i);
        }
        refuseAll(x);
        for (int i = 7; i >= 2; i--) {
            x.undo();
            same("setting(0)", i, x.setting(0));
        }
        refuses(x, "undo()", STATE, () -> x.undo());
    }

    /** Each method that may throw is refused once, in a yard without coils and orders. */
    private static void refuseAll(CoilSlits x) {
        refuses(x, "receive", ARGUMENT, () -> x.receive(0, 0, 0, 0));
        refuses(x, "move", STATE, () -> x.move(0, 1));
        refuses(x, "dig", INDEX, () -> x.dig(0));
        refuses(x, "sendAway", INDEX, () -> x.sendAway(0));
        refuses(x, "order", ARGUMENT, () -> x.order(0, 0, 0, 0, 0));
        refuses(x, "cancel", INDEX, () -> x.cancel(0));
        refuses(x, "slit", INDEX, () -> x.slit(0, 0));
        refuses(x, "serve", INDEX, () -> x.serve(0));
        refuses(x, "set", ARGUMENT, () -> x.set(0, 0));
        refuses(x, "append", ARGUMENT, () -> x.append(0));
        refuses(x, "receiveAll", ARGUMENT, () -> x.receiveAll());
        refuses(x, "at", ARGUMENT, () -> x.at(0, 5));
        refuses(x, "coil", INDEX, () -> x.coil(0, 0));
        refuses(x, "orderOf", ARGUMENT, () -> x.orderOf(0, 8));
        refuses(x, "whyNot", INDEX, () -> x.whyNot(0, 0));
        refuses(x, "count", ARGUMENT, () -> x.count(14));
        refuses(x, "setting", INDEX, () -> x.setting(4));
        refuses(x, "choice", INDEX, () -> x.choice(0));
        refuses(x, "ifServed", INDEX, () -> x.ifServed(0, 0, 0));
    }

    // ---- Exceptions

    private static void exceptions() {
        test("Exceptions: receive, index before argument before state", PartTests::orderOfReceive);
        test("Exceptions: move, index before argument before state", PartTests::orderOfMove);
        test("Exceptions: order, argument before state", PartTests::orderOfOrder);
        test("Exceptions: slit, index before state", PartTests::orderOfSlit);
        test("Exceptions: set, index before argument", PartTests::orderOfSet);
        test("Exceptions: append, argument before state", PartTests::orderOfAppend);
        test("Exceptions: at, coil, ifServed, index before argument", PartTests::orderOfLooks);
        test("Exceptions: a call that throws changes nothing in a full yard", PartTests::changesNothing);
        test("Exceptions: a call that throws leaves the buffer as it is", PartTests::bufferUnchanged);
    }

    private static void orderOfReceive() {
        CoilSlits x = withHeights(5);
        refuses(x, "all", INDEX, () -> x.receive(0, 4, 10, 6));
        refuses(x, "index and argument", INDEX, () -> x.receive(201, 0, 0, -1));
        refuses(x, "width and state", ARGUMENT, () -> x.receive(201, 0, 0, 0));
        refuses(x, "grade and state", ARGUMENT, () -> x.receive(9, 4, 0, 0));
        refuses(x, "quality and state", ARGUMENT, () -> x.receive(9, 0, 10, 0));
        refuses(x, "state", STATE, () -> x.receive(9, 0, 0, 0));
    }

    private static void orderOfMove() {
        CoilSlits x = withHeights(5, 0, 5);
        refuses(x, "both beside, and the same", INDEX, () -> x.move(6, 6));
        refuses(x, "both beside, and the same", INDEX, () -> x.move(-1, -1));
        refuses(x, "to beside, from an empty one", INDEX, () -> x.move(1, 6));
        refuses(x, "from beside, to a full one", INDEX, () -> x.move(-1, 0));
        refuses(x, "the same, and empty", ARGUMENT, () -> x.move(1, 1));
        refuses(x, "the same, and full", ARGUMENT, () -> x.move(0, 0));
        refuses(x, "empty", STATE, () -> x.move(1, 3));
        refuses(x, "full", STATE, () -> x.move(0, 2));
        refuses(x, "empty, and full", STATE, () -> x.move(1, 2));
    }

    private static void orderOfOrder() {
        CoilSlits x = new CoilSlits();
        for (int i = 0; i < 8; i++) {
            x.order(0, 0, 2, 1, 1);
        }
        refuses(x, "grade and state", ARGUMENT, () -> x.order(4, 0, 2, 1, 1));
        refuses(x, "quality and state", ARGUMENT, () -> x.order(0, 10, 2, 1, 1));
        refuses(x, "width and state", ARGUMENT, () -> x.order(0, 0, 101, 1, 1));
        refuses(x, "strips and state", ARGUMENT, () -> x.order(0, 0, 2, 41, 1));
        refuses(x, "price and state", ARGUMENT, () -> x.order(0, 0, 2, 1, 100));
        refuses(x, "state", STATE, () -> x.order(0, 0, 2, 1, 1));
    }

    private static void orderOfSlit() {
        CoilSlits x = withCoils("50g0;50g1");
        x.order(0, 0, 30, 1, 1);
        refuses(x, "no such order, a coil that does not suit", INDEX, () -> x.slit(1, 1));
        refuses(x, "no such coil", INDEX, () -> x.slit(0, 2));
        refuses(x, "neither", INDEX, () -> x.slit(1, 2));
        refuses(x, "it does not suit", STATE, () -> x.slit(0, 1));
        x.sendAway(0);
        refuses(x, "a coil that is gone", INDEX, () -> x.slit(0, 0));
    }

    private static void orderOfSet() {
        CoilSlits x = new CoilSlits();
        refuses(x, "set(4, -1)", INDEX, () -> x.set(4, -1));
        refuses(x, "set(-1, -1)", INDEX, () -> x.set(-1, -1));
        refuses(x, "set(3, 3)", ARGUMENT, () -> x.set(3, 3));
    }

    private static void orderOfAppend() {
        CoilSlits x = new CoilSlits();
        for (int i = 0; i < 60; i++) {
            x.append('1');
        }
        refuses(x, "append(32), full", ARGUMENT, () -> x.append(32));
        refuses(x, "append(127), full", ARGUMENT, () -> x.append(127));
        refuses(x, "append(33), full", STATE, () -> x.append(33));
        refuses(x, "append(126), full", STATE, () -> x.append(126));
    }

    private static void orderOfLooks() {
        CoilSlits x = withCoils("50g0");
        x.order(0, 0, 30, 1, 1);
        refuses(x, "at(6, 5)", INDEX, () -> x.at(6, 5));
        refuses(x, "at(-1, -1)", INDEX, () -> x.at(-1, -1));
        refuses(x, "coil(1, 6)", INDEX, () -> x.coil(1, 6));
        refuses(x, "coil(-1, -1)", INDEX, () -> x.coil(-1, -1));
        refuses(x, "ifServed(1, 3, 4)", INDEX, () -> x.ifServed(1, 3, 4));
        refuses(x, "ifServed(-1, -1, -1)", INDEX, () -> x.ifServed(-1, -1, -1));
    }

    private static void changesNothing() {
        CoilSlits x = buried(50, 0, 5);
        for (int i = 0; i < 8; i++) {
            x.order(i % 4, 9, 30, 1, 1);
        }
        for (int stack = 0; stack < 6; stack++) {
            int s = stack;
            refuses(x, "receive", STATE, () -> x.receive(9, 0, 0, s));
            refuses(x, "move", STATE, () -> x.move(s, (s + 3) % 6));
            refuses(x, "dig", STATE, () -> x.dig(5 * s));
            refuses(x, "sendAway", STATE, () -> x.sendAway(5 * s));
            refuses(x, "slit", STATE, () -> x.slit(0, 5 * s));
        }
        refuses(x, "order", STATE, () -> x.order(0, 0, 30, 1, 1));
        same("undo", 5, x.undo());
        same("the eighth order is gone", 7, x.count(3));
        same("undo", 4, x.undo());
        same("the seventh order is gone", 6, x.count(3));
    }

    private static void bufferUnchanged() {
        CoilSlits x = typed("9g0;");
        refuses(x, "receiveAll", ARGUMENT, () -> x.receiveAll());
        refuses(x, "append", ARGUMENT, () -> x.append(32));
        refuses(x, "undo", STATE, () -> x.undo());
        same("append", 5, x.append('8'));
        type(x, "g1");
        same("receiveAll", 2, x.receiveAll());
        sameCoil(x, 1, 8, 1, 5, 1, 0, 0);
    }
}
