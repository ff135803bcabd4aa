/** Promise 14: take. */
public final class Promise14TakeTest {
    public static void main(String[] args) {
        Check.run(Promise14TakeTest.class);
    }

    private static Desk withHand(int size) {
        Desk d = new Desk();
        for (int i = 0; i < size; i++) {
            Check.due("take number " + i, d.take(i), true);
        }
        return d;
    }

    static void promise14_the16th_isTaken() {
        Check.due("take the 16th", withHand(15).take(5), true);
    }

    static void promise14_the17th_isRefused() {
        Check.due("take the 17th", withHand(16).take(5), false);
    }

    static void promise14_the18th_isRefusedToo() {
        Desk d = withHand(16);
        d.take(5);
        Check.due("take the 18th", d.take(5), false);
    }

    static void promise14_theNumber0_countsToo() {
        Desk d = new Desk();
        for (int i = 0; i < 16; i++) {
            Check.due("take number " + i, d.take(0), true);
        }
        Check.due("take the 17th", d.take(0), false);
    }

    static void promise14_everyNumber_isTaken() {
        for (long x : new long[] {0, 1, -1, Long.MIN_VALUE, Long.MAX_VALUE, 1L << 32}) {
            Desk d = new Desk();
            Check.due("take(" + x + ")", d.take(x), true);
            Check.due("it is in the HAND", d.isInside(0, 2, 3, Exact.join(3, x)), true);
        }
    }

    static void promise14_theSameNumberTwice_isThereTwice() {
        Desk d = new Desk();
        d.takeAll(9, 9);
        Check.due("isInside", d.isInside(0, 4, 3, Exact.join(Exact.join(3, 9), 9)), true);
    }

    static void promise14_numbers_keepTheirOrder() {
        long due = Exact.join(Exact.join(3, 8), 9);
        Desk d = new Desk();
        d.takeAll(8, 9);
        Check.due("isInside", d.isInside(0, 4, 3, due), true);
        d.takeAll(9, 8);
        Check.due("isInside in turn", d.isInside(0, 4, 3, due), false);
    }

    static void promise14_the17th_doesNotEmptyTheHand() {
        Desk d = withHand(16);
        d.take(5);
        Check.due("isInside", d.isInside(0, 1, 5, 5), false);
    }

    static void promise14_behindIsInside_16AreTakenAgain() {
        Desk d = withHand(16);
        d.isInside(0, 1, 5, 5);
        for (int i = 0; i < 16; i++) {
            Check.due("take number " + i, d.take(i), true);
        }
        Check.due("take the 17th", d.take(5), false);
    }

    static void promise14_behindIsGrowth_16AreTakenAgain() {
        Desk d = withHand(16);
        d.isGrowth(1, 1, 5, 5);
        for (int i = 0; i < 16; i++) {
            Check.due("take number " + i, d.take(i), true);
        }
        Check.due("take the 17th", d.take(5), false);
    }

    static void promise14_proofsMade_leaveTheHand() {
        Desk d = Desk.withRows(5);
        d.take(7);
        d.inside(0, 5);
        d.growth(3, 5);
        d.inside(9, 5);
        d.proof(0);
        d.publish("a", 0, 900, 0);
        d.follow(0, 6);
        Check.due("isInside", d.isInside(0, 2, 3, Exact.join(3, 7)), true);
    }
}
