/**
 * All that later calls can show of an object: what it is now, what each undoing brings back, what the
 * slots kept, what was seen, the seed, and what its text tells. The object is used up by it.
 */
final class Probe {
    private final StableRivers x;
    private final StringBuilder told = new StringBuilder();
    private int calls;

    Probe(StableRivers x) {
        this.x = x;
        now();
        seen();
        tell(x.seed(0));
        acts();
        slot(0);
        slot(1);
        text();
        seen();
        tell(x.unsee());
    }

    String shown() {
        return told.toString();
    }

    int calls() {
        return calls;
    }

    private void tell(long answer) {
        told.append(answer).append(' ');
        calls++;
    }

    private void now() {
        for (int what = 0; what <= 10; what++) {
            tell(x.count(what));
        }
        for (int i = 0; i < 6; i++) {
            for (int what = 0; what <= 5; what++) {
                tell(x.place(i, what));
            }
            for (int what = 0; what <= 2; what++) {
                tell(x.ditch(i, what));
            }
        }
    }

    private void seen() {
        for (int what = 0; what <= 2; what++) {
            tell(x.fit(what));
        }
    }

    /** One undoing more than there can be acts. */
    private void acts() {
        for (int i = 0; i < 15; i++) {
            tell(x.undo());
            for (int what = 3; what <= 7; what++) {
                tell(x.count(what));
            }
            for (int place = 0; place < 6; place++) {
                tell(x.place(place, 1));
            }
        }
    }

    private void slot(int slot) {
        tell(x.again(slot));
        for (int what = 3; what <= 9; what++) {
            tell(x.count(what));
        }
        for (int place = 0; place < 6; place++) {
            tell(x.place(place, 1));
            tell(x.place(place, 2));
            tell(x.place(place, 4));
        }
    }

    private void text() {
        tell(x.fault());
        tell(x.land());
        now();
        tell(x.write('T'));
    }
}
