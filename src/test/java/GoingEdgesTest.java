/** Boundary cases of the terms GROUP, READY, IT GOES and TRAP, a sentence each. */
public final class GoingEdgesTest extends Edges {
    private static final String GROUP = "Term GROUP";
    private static final String READY = "Term READY";
    private static final String GOES = "Term IT GOES";
    private static final String TRAP = "Term TRAP";

    public static void main(String[] args) {
        endedThreadsAreInNoGroup();
        waitingThreadsAreInNoGroup();
        theLeastPlace();
        readyIfItHasAGroup();
        noWordIsNeededBeyond();
        aTickNotAboveTheCycle();
        theGuardsTickToo();
        nothingForWhatIsNoWord();
        theDividerTick();
        theMemoryTick();
        theSharedTick();
        ticksOfANewWarp();
        ticksOfAllThreads();
        ticksOfTheLaunch();
        ticksBehindTheEnd();

        thoseWhoseGuardHolds();
        placesOfAllGrow();
        placesOfJumps();
        noneDoesAnythingGlobal();
        noneDoesAnythingShared();
        noneDoesAnythingDivided();
        theTrapsCycleCounts();
        theUnitsBehindDoNotGo();
        theSlotsStay();
        pendingIsDoneYet();
        theLeastLane();
        onlyLanesThatDoIt();
        placesBeyond();
        noSuchWord();
        noSuchWordWhateverGuards();
        dividedByZero();
        noSuchInt();
        Check.end();
    }

    /** Lane 0 does the word at place 2, the others jump from 3 to 10 and stay there. */
    private static Mill lane0Leaves(long word) {
        Mill m = sized(4, 1, 1, about(1, 4), equal(0, 1, 0), on(0, word), jump(10));
        kernelAt(m, 10, jump(10));
        return launched(m, 1, 4);
    }

    private static void endedThreadsAreInNoGroup() {
        sentence(GROUP, "of its THREADS that have not ended");
        Mill m = lane0Leaves(END);
        m.upTo(8);
        m.lanes("the one that ended stays where it was", 0, 0, PLACE, 3, 10, 10, 10);
        due("the others go in each cycle", m.state(2), 8);
        due("three do word 3 and those behind it", m.state(3), 4 + 4 + 1 + 5 * 3);
        due("and they are the whole group", m.state(12), 1);
    }

    private static void waitingThreadsAreInNoGroup() {
        sentence(GROUP, "and don't wait at a BARRIER");
        Mill m = lane0Leaves(WAIT);
        m.upTo(8);
        m.lanes("the one that waits stays where it was", 0, 0, PLACE, 3, 10, 10, 10);
        due("the others go in each cycle", m.state(2), 8);
        due("three do word 3 and those behind it", m.state(3), 4 + 4 + 1 + 5 * 3);
        due("and they are the whole group", m.state(12), 1);
    }

    private static void theLeastPlace() {
        sentence(GROUP, "those with the least PLACE");
        Mill below = launched(sized(2, 1, 1, about(1, 4), equal(0, 1, 1), on(0, jump(-1)), jump(3)), 1, 2);
        due("-1 is less than 3", below.run(9), 3);
        below.states("lane 1 traps at -1", 8, 1, 0, 1, -1);
        below.lanes("lane 0 has not gone", 0, 0, PLACE, 3, -1);
        Mill beyond = launched(sized(2, 1, 1, about(1, 4), equal(0, 1, 1), on(0, jump(MAX)), jump(3)), 1, 2);
        due("3 is less than the greatest int", beyond.run(50), 1);
        beyond.lanes("lane 0 goes on and on", 0, 0, PLACE, 3, MAX);
        // Lane 0 jumps over place 3 and waits at 4 till lane 1 has come there, too.
        Mill meet = launched(sized(2, 1, 1, about(1, 4), equal(0, 1, 0), on(0, jump(4)), put(2, 1), put(3, 1), jump(5)), 1, 2);
        meet.upTo(4);
        meet.lanes("both are at 4", 0, 0, PLACE, 4, 4);
        meet.upTo(5);
        meet.lanes("and go together", 0, 0, PLACE, 5, 5);
        meet.states("once for a group", 2, 5, 2 + 2 + 1 + 1 + 2);
    }

    private static void readyIfItHasAGroup() {
        sentence(READY, "It is READY, if it has one");
        for (long word : new long[] {WAIT, END}) {
            Mill m = launched(sized(1, 2, 1, about(1, 5), equal(0, 1, 0), on(0, word), jump(3)), 1, 2);
            m.upTo(12);
            due("slot 1 goes alone", m.unit(0, 2), 1);
            due("in each cycle", m.state(2), 12);
            due("slot 0 has gone three times", m.lane(0, 0, 0, PLACE), 3);
            m.run(1);
            due("slot 1 once more", m.unit(0, 2), 1);
        }
    }

    private static void noWordIsNeededBeyond() {
        sentence(READY, "(none is needed beyond 127, or below 0)");
        for (int place : new int[] {128, -1, MIN, MAX}) {
            Mill m = launched(mill(load(0, 0, 8), jump(place)), 1, 1);
            due("a trap in cycle 2, though the memory tick is 12", m.run(3), 4);
            m.states("at " + place, 8, 1, 0, 0, place);
        }
        Mill last = mill(load(1, 0, 8), jump(127));
        last.word(127, add(2, 1, 1));
        launched(last, 1, 1);
        last.upTo(12);
        due("the word at 127 waits for its register", last.lane(0, 0, 0, PLACE), 127);
        last.run(1);
        due("till cycle 12", last.lane(0, 0, 0, PLACE), 128);
    }

    /** The word at place 1 has to wait till cycle when, and no longer. */
    private static void goesIn(int when, String what, long first, long second) {
        Mill m = launched(mill(first, second, jump(2)), 1, 1);
        m.upTo(when);
        due(what + ": not ahead of cycle " + when, m.state(2), 1);
        m.run(1);
        due(what + ": in cycle " + when, m.state(2), 2);
    }

    private static void aTickNotAboveTheCycle() {
        sentence(READY, "each register and PREDICATE that the WORD reads or writes is THERE "
            + "(its tick is not above the cycle's number");
        goesIn(3, "a that is read", times(1, 1, 1), add(2, 1, 1));
        goesIn(3, "b that is read", times(1, 1, 1), w(4, 2, 3, 1, 0));
        goesIn(3, "d that is written", times(1, 1, 1), put(1, 1));
        goesIn(1, "another register", times(1, 1, 1), add(2, 3, 1));
        goesIn(2, "pa that is read", w(70, 1, 0, 0, 0), w(36, 2, 1, 0, 0));
        goesIn(2, "pb that is read", w(70, 1, 0, 0, 0), w(34, 2, 3, 1, 0));
        goesIn(2, "pd that is written", w(70, 1, 0, 0, 0), equal(1, 0, 0));
        goesIn(2, "the predicate of n", w(70, 1, 0, 0, 0), w(21, 1, 2, 3, 5));
        goesIn(1, "another predicate", w(70, 1, 0, 0, 0), w(36, 2, 3, 0, 0));
        goesIn(3, "register 15", times(15, 1, 1), add(2, 15, 1));
        goesIn(3, "register 0", times(0, 1, 1), add(2, 0, 1));
        goesIn(2, "predicate 3", w(70, 3, 0, 0, 0), w(36, 2, 3, 0, 0));
    }

    private static void theGuardsTickToo() {
        sentence("Term WORD", "Reads (besides the GUARD's PREDICATE)");
        long late = w(70, 1, 0, 0, 0);
        goesIn(2, "a guard that must be true", late, on(1, put(2, 1)));
        goesIn(2, "a guard that must be false", late, off(1, put(2, 1)));
        goesIn(1, "the guard of another predicate", late, on(2, put(2, 1)));
        goesIn(1, "g is 1: no guard", late, put(2, 1) | 1L << 20);
        goesIn(1, "g is 5: no guard", late, put(2, 1) | 5L << 20);
    }

    private static void nothingForWhatIsNoWord() {
        sentence(READY, "of what is no WORD nothing must be");
        int[][] words = {{22, 0}, {29, 0}, {37, 0}, {39, 0}, {43, 0}, {49, 0}, {60, 0}, {69, 0}, {74, 0}, {255, 0},
            {3, 7}, {3, -1}};
        for (int[] word : words) {
            for (int r : new int[] {0, 1, 15}) {
                // Register r and the memory tick are not there till cycle 12, predicate 1 not till cycle 3.
                Mill m = launched(mill(load(r, r, 8), w(70, 1, 0, 0, 0), on(1, w(word[0], r, r, r, word[1]))), 1, 1);
                due("op " + word[0] + " with register " + r + ", a trap in cycle 2", m.run(3), 4);
                m.states("no such word", 8, 2, 0, 0, 2);
            }
        }
    }

    private static void theDividerTick() {
        sentence(READY, "of 7, 8: the UNIT's DIVIDER tick");
        for (int op : new int[] {7, 8}) {
            // Slot 0 divides in cycle 2, slot 1 can in cycle 10.
            Mill m = launched(sized(1, 2, 1, put(1, 3), w(op, 2, 1, 1, 0), jump(2)), 1, 2);
            m.upTo(10);
            m.lanes("slot 1 waits", 0, 1, PLACE, 1);
            due("the tick", m.unit(0, 0), 10);
            m.run(1);
            m.lanes("slot 1 goes in cycle 10", 0, 1, PLACE, 2);
            due("the tick", m.unit(0, 0), 18);
        }
        Mill other = launched(sized(1, 1, 2, put(1, 3), w(7, 2, 1, 1, 0), jump(2)), 2, 1);
        other.run(2);
        other.lanes("unit 0 divides", 0, 0, PLACE, 2);
        other.lanes("unit 1 has a divider of its own", 1, 0, PLACE, 2);
        Mill product = launched(mill(put(1, 3), w(7, 2, 1, 1, 0), w(6, 3, 1, 1, 0), jump(3)), 1, 1);
        product.run(3);
        product.lanes("6 does not wait for the divider", 0, 0, PLACE, 3);
    }

    private static void theMemoryTick() {
        sentence(READY, "of 0, 1 and 50 to 59 the WARP's MEMORY tick");
        for (int op : new int[] {0, 1, 50, 51, 52, 53, 54, 55, 56, 57, 58, 59}) {
            goesIn(12, "op " + op, store(0, 0, 8), w(op, 2, 0, 0, 9));
        }
        for (int op : new int[] {2, 4, 7, 21, 30, 36, 40, 41, 42, 70, 73}) {
            // 7 divides by 0 there, which it could not in cycle 1 if it waited.
            Mill m = launched(mill(store(0, 0, 8), w(op, 2, 0, 0, 9), jump(2)), 1, 1);
            m.run(2);
            due("op " + op + " does not wait", m.state(2) + (m.state(8) == 3 ? 1 : 0), 2);
        }
        Mill two = launched(sized(1, 2, 1, store(0, 0, 8), jump(1)), 1, 2);
        two.run(2);
        due("another warp has a tick of its own", two.state(2), 2);
        two.lanes("it has asked, too", 0, 1, PLACE, 1);
    }

    /** Warp 0 asks in cycle 6 for one int with 8 lanes (m is 8); warp 1 comes to its word for cycle 7. */
    private static Mill sharedIsBusy(int op) {
        Mill m = sized(8, 2, 1, about(1, 5), equal(0, 1, 0), on(0, jump(10)), w(op, 2, 0, 0, 0), jump(4));
        kernelAt(m, 10, w(58, 3, 0, 0, 0), jump(11));
        return launched(m, 1, 16);
    }

    private static void theSharedTick() {
        sentence(READY, "of 52, 53, 58, 59 the UNIT's SHARED tick is not above it either");
        for (int op : new int[] {52, 53, 58, 59}) {
            Mill m = sharedIsBusy(op);
            m.upTo(14);
            due("the tick", m.unit(0, 1), 14);
            due("op " + op + " waits", m.lane(0, 1, 0, PLACE), 3);
            m.run(1);
            due("op " + op + " goes in cycle 14", m.lane(0, 1, 0, PLACE), 4);
        }
        for (int op : new int[] {2, 50, 51, 54, 55, 56, 57}) {
            Mill m = sharedIsBusy(op);
            m.upTo(8);
            due("op " + op + " does not wait", m.lane(0, 1, 0, PLACE), 4);
        }
        Mill other = launched(sized(8, 1, 2, w(58, 3, 0, 0, 0), jump(1)), 2, 8);
        other.run(1);
        due("another unit has a tick of its own", other.state(2), 2);
    }

    private static void ticksOfANewWarp() {
        sentence(READY, "Ticks are 0 at first: of registers, PREDICATES and MEMORY those of a new WARP");
        Mill m = sized(1, 1, 1, about(1, 1), equal(0, 1, 1), on(0, jump(20)), store(0, 0, 8), put(2, 1));
        kernelAt(m, 5, w(70, 3, 0, 0, 0), w(7, 2, 2, 2, 0), END);
        kernelAt(m, 20, put(3, 1), jump(21));
        launched(m, 2, 1);
        // store in cycle 3 (memory tick 15), put in 4, 70 in 5, 7 in 6, END in 15; block 1 from 16 on.
        m.upTo(15);
        due("memory tick of block 0", m.slot(0, 0, MEMORY_TICK), 15);
        due("register 2's tick", m.slot(0, 0, REGISTER_TICK + 2), 14);
        due("predicate 3's tick", m.slot(0, 0, PREDICATE_TICK + 3), 7);
        m.upTo(20);
        due("block 1", m.slot(0, 0, 0), 1);
        due("memory tick of block 1", m.slot(0, 0, MEMORY_TICK), 0);
        due("register 2's tick", m.slot(0, 0, REGISTER_TICK + 2), 0);
        due("predicate 3's tick", m.slot(0, 0, PREDICATE_TICK + 3), 0);
        due("register 3's tick, of its own", m.slot(0, 0, REGISTER_TICK + 3), 20);
        // Block 0 leaves while its register 2 would be there in cycle 9 only; block 1 writes it in cycle 3.
        Mill at0 = launched(sized(1, 1, 1, put(2, 1), w(7, 2, 2, 2, 0), END), 2, 1);
        at0.upTo(4);
        due("block 1", at0.slot(0, 0, 0), 1);
        at0.lanes("it has gone", 0, 0, PLACE, 1);
    }

    /** Lane 1 alone writes register 3 in cycle 2 (it is there in 5); lane 0 alone reads it. */
    private static void ticksOfAllThreads() {
        sentence(READY, "for all its THREADS");
        Mill m = sized(2, 1, 1, about(1, 4), equal(0, 1, 0), off(0, times(3, 1, 1)), off(0, jump(10)), add(4, 3, 1), jump(5));
        kernelAt(m, 10, jump(10));
        launched(m, 1, 2);
        m.upTo(5);
        m.lanes("lane 0 waits, and lane 1 is not the group", 0, 0, PLACE, 4, 10);
        due("nothing went in cycle 4", m.state(2), 4);
        m.run(1);
        m.lanes("lane 0 goes in cycle 5", 0, 0, PLACE, 5, 10);
    }

    private static void ticksOfTheLaunch() {
        sentence(READY, "of DIVIDERS, SHARED those of the LAUNCH");
        Mill m = launched(sized(1, 1, 1, put(2, 1), w(7, 2, 2, 2, 0), END), 2, 1);
        // Block 0 divides in cycle 1 and ends in 2; block 1 could divide in cycle 4.
        m.upTo(9);
        m.lanes("block 1 waits for the divider", 0, 0, PLACE, 1);
        m.run(1);
        m.lanes("it divides in cycle 9", 0, 0, PLACE, 2);
        m.stop();
        launched(m, 1, 1);
        due("the next launch's divider tick", m.unit(0, 0), 0);
        m.run(2);
        m.lanes("it divides in cycle 1", 0, 0, PLACE, 2);
        // 32 lanes at one int keep the shared memory till cycle 32; the next launch is free to go at once.
        Mill shared = launched(sized(32, 1, 1, w(58, 1, 0, 0, 0), jump(1)), 1, 32);
        shared.run(1);
        due("shared tick", shared.unit(0, 1), 32);
        shared.stop();
        launched(shared, 1, 32);
        due("the next launch's shared tick", shared.unit(0, 1), 0);
        shared.run(1);
        due("its word goes in cycle 0", shared.state(2), 1);
    }

    private static void ticksBehindTheEnd() {
        sentence(READY, "behind its end, or stop(), they stay as they were till the next one begins");
        // 7 in cycle 1, 58 in cycle 2 (shared tick 3), 50 in cycle 5 (gate 1's tick 10), the end in cycle 17.
        Mill m = launched(mill(put(1, 3), w(7, 2, 1, 1, 0), w(58, 3, 0, 1, 0), load(4, 0, 8), END), 1, 1);
        due("over", m.run(500), 2);
        unitTicks(m, "behind the end", 9, 3, 10);
        launched(m, 1, 1);
        unitTicks(m, "as the next one begins", 0, 0, 0);
        m.run(6);
        // The line is there now: the gate's tick is 6.
        unitTicks(m, "under way", 9, 3, 6);
        yes("stop", m.stop());
        unitTicks(m, "behind stop", 9, 3, 6);
        launched(m, 1, 1);
        unitTicks(m, "as the next one begins", 0, 0, 0);
    }

    private static void unitTicks(Mill m, String when, int divider, int shared, int gate) {
        due(when + ": divider tick", m.unit(0, 0), divider);
        due(when + ": shared tick", m.unit(0, 1), shared);
        due(when + ": gate's tick", m.cached(1, 4), gate);
    }

    private static void thoseWhoseGuardHolds() {
        sentence(GOES, "the THREADS of the GROUP whose GUARD holds DO the WORD, LANE by LANE (of 70 to 73: all at once)");
        // Lanes 1 and 2 are the group at place 6; the guard holds in lanes 0 and 1.
        Mill m = mill(about(1, 4), less(0, 1, 2), equal(1, 1, 0), equal(2, 1, 3), on(1, jump(9)), on(2, jump(9)), on(0, put(3, 7)),
            jump(7));
        m.word(9, jump(9));
        launched(m, 1, 4).upTo(7);
        m.lanes("lane 1 alone", 0, 0, 3, 0, 7, 0, 0);
        // Each lane adds what it is to what those before it left; 73 has what all had ahead of it.
        Mill turns = launched(mill(about(1, 4), w(58, 2, 0, 1, 0), w(73, 1, 1, 0, 1), jump(3)), 1, 4);
        turns.run(10);
        turns.lanes("lane by lane", 0, 0, 2, 0, 0, 1, 3);
        turns.lanes("all at once", 0, 0, 1, 1, 0, 3, 2);
    }

    private static void placesOfAllGrow() {
        sentence(GOES, "the PLACES of all of the GROUP grow by 1 (also by 0 and 1, and of those whose GUARD does not hold)");
        for (long word : new long[] {END, WAIT, put(2, 1), w(53, 0, 0, 0, 0), store(0, 0, 8), w(70, 1, 0, 0, 0)}) {
            Mill some = launched(sized(2, 1, 1, about(1, 4), equal(0, 1, 0), on(0, word), jump(3)), 1, 2);
            some.upTo(3);
            some.lanes("lane 0 does it, lane 1 does not", 0, 0, PLACE, 3, 3);
            due("one does it", some.state(3), 5);
        }
        Mill none = launched(sized(2, 1, 1, on(0, put(2, 1)), jump(1)), 1, 2);
        none.run(1);
        none.lanes("none does it", 0, 0, PLACE, 1, 1);
        none.states("it went all the same", 2, 1, 0);
    }

    private static void placesOfJumps() {
        sentence(GOES, "or, of THREADS that DO a jump, become what that tells");
        for (int op : new int[] {40, 41, 42}) {
            Mill m = sized(2, 1, 1, about(1, 4), equal(0, 1, 0), put(5, 9), on(0, w(op, 6, 5, 0, 9)), jump(4));
            kernelAt(m, 9, jump(9));
            launched(m, 1, 2);
            m.upTo(4);
            m.lanes("op " + op + " by lane 0 alone", 0, 0, PLACE, 9, 4);
        }
        Mill none = launched(mill(on(0, jump(9)), jump(1)), 1, 4);
        none.run(1);
        none.lanes("none does it", 0, 0, PLACE, 1, 1, 1, 1);
        Mill self = launched(mill(jump(0)), 1, 4);
        self.run(3);
        self.lanes("to where it is", 0, 0, PLACE, 0, 0, 0, 0);
    }

    /** Lanes 0 to 2 could do it, lane 3 asks for the int behind the last one. */
    private static Mill lane3CannotDoIt(int op, int bound) {
        Mill m = sized(4, 1, 1, about(1, 4), add(2, 1, 40), w(op, 3, 1, 2, bound - 3));
        m.set(509, 5);
        m.set(510, 5);
        launched(m, 1, 4);
        due("op " + op + " traps", m.run(50), 3);
        m.states("op " + op, 8, 4, 0, 3, 2);
        m.states("it did not go", 1, 3, 2, 8);
        due("not all did it: not counted", m.state(12), 0);
        m.lanes("no place grows", 0, 0, PLACE, 2, 2, 2, 2);
        m.lanes("d", 0, 0, 3, 0, 0, 0, 0);
        due("d's tick", m.slot(0, 0, REGISTER_TICK + 3), 0);
        due("memory tick", m.slot(0, 0, MEMORY_TICK), 0);
        due("words of the unit", m.unit(0, 3), 2);
        return m;
    }

    private static void noneDoesAnythingGlobal() {
        sentence(TRAP, "If one that DOES it can't (a TRAP), none does anything");
        for (int op : new int[] {50, 51, 54, 55, 56, 57}) {
            Mill m = lane3CannotDoIt(op, 512);
            due("int 509", m.global(509), 5);
            due("int 510", m.global(510), 5);
            m.states("no line is asked for", 4, 0, 0);
            due("nothing is pending", m.state(19), 0);
            due("line 63 does not come", m.cached(1, 3), NONE);
            due("gate's tick", m.cached(1, 4), 0);
        }
    }

    private static void noneDoesAnythingShared() {
        sentence(TRAP, "If one that DOES it can't (a TRAP), none does anything");
        for (int op : new int[] {52, 53, 58, 59}) {
            Mill m = lane3CannotDoIt(op, 64);
            due("int 61", m.shared(0, 61), 0);
            due("int 62", m.shared(0, 62), 0);
            due("int 63", m.shared(0, 63), 0);
            due("shared tick", m.unit(0, 1), 0);
        }
    }

    private static void noneDoesAnythingDivided() {
        sentence(TRAP, "If one that DOES it can't (a TRAP), none does anything");
        for (int op : new int[] {7, 8}) {
            Mill m = launched(mill(about(1, 4), add(2, 1, -3), put(3, 9), w(op, 3, 1, 2, 0)), 1, 4);
            due("op " + op + " traps", m.run(50), 3);
            m.states("lane 3 divides by 0", 8, 3, 0, 3, 3);
            m.lanes("d", 0, 0, 3, 9, 9, 9, 9);
            m.lanes("no place grows", 0, 0, PLACE, 3, 3, 3, 3);
            due("divider tick", m.unit(0, 0), 0);
            due("d's tick", m.slot(0, 0, REGISTER_TICK + 3), 3);
            m.states("it did not go", 1, 4, 3, 12);
        }
    }

    private static void theTrapsCycleCounts() {
        sentence(TRAP, "nothing goes any more (that cycle counts");
        Mill m = launched(mill(put(1, 1), NO_WORD), 1, 1);
        due("over", m.run(500), 3);
        due("cycles of the launch", m.state(1), 2);
        due("cycles in all", m.state(7), 2);
        due("words", m.state(2), 1);
        Mill both = launched(sized(1, 2, 1, about(1, 5), equal(0, 1, 0), on(0, NO_WORD), jump(3)), 1, 2);
        due("slot 0 traps in cycle 4", both.run(500), 3);
        both.lanes("slot 1 does not go any more", 0, 1, PLACE, 2);
    }

    private static void theUnitsBehindDoNotGo() {
        sentence(TRAP, "the UNITS behind don't go");
        // Block 1, in unit 1, divides by 0 in cycle 2.
        Mill m = launched(sized(1, 1, 3, about(1, 1), add(1, 1, -1), w(7, 2, 1, 1, 0), jump(3)), 3, 1);
        due("a trap", m.run(9), 3);
        m.states("of block 1", 8, 3, 1, 0, 2);
        m.lanes("unit 0 went ahead of it", 0, 0, PLACE, 3);
        m.lanes("unit 1 did not", 1, 0, PLACE, 2);
        m.lanes("unit 2 did not", 2, 0, PLACE, 2);
        due("words of unit 0", m.unit(0, 3), 3);
        due("words of unit 1", m.unit(1, 3), 2);
        due("words of unit 2", m.unit(2, 3), 2);
        due("unit 2's divider", m.unit(2, 0), 0);
    }

    private static void theSlotsStay() {
        sentence(TRAP, "the SLOTS stay as they are");
        Mill m = launched(mill(about(1, 0), w(53, 0, 1, 1, 3), NO_WORD), 2, 6);
        due("over", m.run(500), 3);
        due("block 0", m.slot(0, 0, 0), 0);
        due("its warp 1", m.slot(0, 1, 1), 1);
        due("block 1", m.slot(0, 2, 0), 1);
        m.lanes("registers", 0, 1, 1, 4, 5, NO_SUCH);
        due("its shared memory", m.shared(0, 6), 3);
        due("the memory tick", m.slot(0, 0, MEMORY_TICK) > 0 ? 1 : 0, 1);
        due("still over", m.run(500), 3);
        due("still there", m.slot(0, 0, 0), 0);
    }

    private static void pendingIsDoneYet() {
        sentence(TRAP, "what is PENDING is DONE yet");
        Mill m = mill(put(1, 9), store(0, 1, 8), NO_WORD);
        launched(m, 1, 4);
        due("a trap in cycle 2", m.run(3), 4);
        due("four lanes' are pending", m.state(19), 4);
        m.upTo(13);
        due("not yet", m.global(8), 0);
        due("in cycle 13", m.run(1), 3);
        due("it is written", m.global(8), 9);
        due("nothing is pending", m.state(19), 0);
        Mill d = mill(load(1, 0, 8), NO_WORD);
        d.set(8, 6);
        launched(d, 1, 1);
        due("a trap in cycle 1", d.run(500), 3);
        d.lanes("d comes to its thread yet", 0, 0, 1, 6);
    }

    /** Threads 6 and 7, that is lanes 2 and 3 of warp 1, have 0 in register 2. */
    private static void theLeastLane() {
        sentence(TRAP, "the least LANE that can't is told");
        Mill m = launched(mill(about(1, 0), less(0, 1, 6), on(0, put(2, 1)), w(7, 3, 1, 2, 0), jump(4)), 1, 8);
        due("a trap", m.run(100), 3);
        m.states("thread 6", 8, 3, 0, 6, 3);
        Mill last = launched(sized(32, 1, 1, about(1, 4), add(2, 1, -31), w(8, 3, 1, 2, 0)), 1, 32);
        due("a trap", last.run(100), 3);
        last.states("lane 31", 8, 3, 0, 31, 2);
        for (int op = 50; op <= 59; op++) {
            // Lanes 1 to 3 ask for what is behind the last int.
            int bound = ofShared(op) ? 64 : 512;
            Mill some = launched(mill(about(1, 4), w(op, 2, 1, 3, bound - 1)), 1, 4);
            due("op " + op + " traps", some.run(50), 3);
            some.states("lane 1", 8, 4, 0, 1, 1);
        }
    }

    private static void onlyLanesThatDoIt() {
        sentence(TRAP, "If one that DOES it can't");
        // All have 0 in register 2; lanes 2 and 3 alone do it.
        Mill two = launched(mill(about(1, 4), less(0, 1, 2), off(0, w(7, 3, 1, 2, 0))), 1, 4);
        due("a trap", two.run(50), 3);
        two.states("lane 2", 8, 3, 0, 2, 2);
        for (long word : new long[] {w(7, 3, 1, 2, 0), w(8, 3, 1, 2, 0), load(3, 0, -1), store(0, 1, 512), w(52, 3, 0, 0, 64),
            w(58, 3, 0, 0, -1)}) {
            Mill none = launched(mill(on(0, word), jump(1)), 1, 4);
            due("none does it: no trap", none.run(50), 1);
            due("it went", none.lane(0, 0, 3, PLACE), 1);
        }
    }

    private static void placesBeyond() {
        sentence(TRAP, "1 a PLACE beyond 127 (or below 0");
        for (int place : new int[] {128, 129, 256, MAX, -1, -128, MIN}) {
            Mill m = launched(mill(jump(place)), 1, 3);
            due("a jump to " + place, m.run(1), 1);
            m.lanes("is no trap itself", 0, 0, PLACE, place, place, place);
            due("but to go there is", m.run(1), 3);
            m.states("at " + place, 8, 1, 0, 0, place);
            due("one word went", m.state(2), 1);
        }
        Mill last = mill(jump(127));
        last.word(127, put(1, 4));
        launched(last, 1, 1);
        due("127 is a place", last.run(2), 1);
        last.lanes("its word was done", 0, 0, 1, 4);
        due("behind it is none", last.run(1), 3);
        last.states("at 128", 8, 1, 0, 0, 128);
        Mill first = launched(mill(put(2, -1), w(42, 0, 2, 0, 0)), 1, 1);
        due("42 to -1", first.run(50), 3);
        first.states("at -1", 8, 1, 0, 0, -1);
        sentence(TRAP, "whatever GUARDS");
        // Predicate 3 is true in lane 2 alone: neither that nor the guards of words 0 and 127 matter beyond.
        for (int place : new int[] {128, 255, -1, -128}) {
            Mill m = mill(off(3, about(1, 4)), equal(3, 1, 2), jump(place));
            m.word(127, on(3, END));
            launched(m, 1, 4);
            due("a trap at " + place, m.run(50), 3);
            m.states("the least lane of the group", 8, 1, 0, 0, place);
        }
    }

    private static void noSuchWord() {
        sentence(TRAP, "2 no such WORD");
        for (int op : new int[] {22, 25, 29, 37, 38, 39, 43, 46, 49, 60, 65, 69, 74, 75, 127, 128, 200, 255}) {
            Mill m = launched(mill(put(1, 1), w(op, 1, 1, 1, 1)), 1, 2);
            due("op " + op, m.run(50), 3);
            m.states("op " + op, 8, 2, 0, 0, 1);
            due("one word went", m.state(2), 1);
        }
        for (int op : new int[] {0, 1, 2, 3, 21, 30, 36, 40, 42, 50, 59, 70, 73}) {
            Mill m = launched(mill(put(1, 1), w(op, 1, 1, 1, 1), jump(2)), 1, 2);
            m.run(2);
            due("op " + op + " is a word", m.state(8), 0);
            due("op " + op + " went", m.state(2), 2);
        }
    }

    private static void noSuchWordWhateverGuards() {
        sentence(TRAP, "(that too)");
        // The guard holds in lane 2 alone; the least lane of the group is told all the same.
        Mill one = launched(mill(about(1, 4), equal(0, 1, 2), on(0, NO_WORD)), 1, 4);
        due("a trap", one.run(50), 3);
        one.states("lane 0", 8, 2, 0, 0, 2);
        Mill none = launched(mill(on(0, NO_WORD)), 1, 4);
        due("a guard that holds in no lane", none.run(50), 3);
        none.states("lane 0", 8, 2, 0, 0, 0);
        // Lanes 0 and 1 have gone to 10: the group at place 4 is lanes 2 and 3.
        Mill two = mill(about(1, 4), less(0, 1, 2), on(0, jump(10)), on(0, put(2, 1)), on(0, NO_WORD));
        launched(two, 1, 4);
        due("a trap", two.run(50), 3);
        two.states("the least lane of the group", 8, 2, 0, 2, 4);
    }

    private static void dividedByZero() {
        sentence(TRAP, "3 divided by 0");
        for (int op : new int[] {7, 8}) {
            for (int x : new int[] {0, 1, MIN, MAX}) {
                Mill m = launched(mill(put(1, x), w(op, 2, 1, 3, 5)), 1, 1);
                due("op " + op + " of " + x + " by 0", m.run(50), 3);
                m.states("op " + op, 8, 3, 0, 0, 1);
            }
            Mill fine = launched(mill(put(3, -1), w(op, 2, 0, 3, 0), jump(2)), 1, 1);
            due("op " + op + " of 0 by -1", fine.run(50), 1);
        }
    }

    private static void noSuchInt() {
        sentence(TRAP, "4 no such int of a memory");
        int[] sizes = {512, 1024, 2048, 4096};
        for (int op = 50; op <= 59; op++) {
            for (int ints : sizes) {
                int bound = ofShared(op) ? 64 : ints;
                for (int k : new int[] {-1, bound, bound + 1, MIN, MAX}) {
                    Mill m = asks(op, ints, k);
                    due("op " + op + " of int " + k + " of " + bound, m.run(50), 3);
                    m.states("op " + op, 8, 4, 0, 0, 0);
                }
                for (int k : new int[] {0, bound - 1}) {
                    due("op " + op + " of int " + k + " of " + bound, asks(op, ints, k).run(50), 1);
                }
            }
        }
    }

    private static Mill asks(int op, int ints, int k) {
        Mill m = new Mill();
        m.sizes(1, 1, 1, 1, 1, ints);
        return launched(kernel(m, w(op, 2, 0, 0, k), jump(1)), 1, 1);
    }
}
