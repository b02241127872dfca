import java.util.ArrayList;
import java.util.List;

/**
 * A state that an object is brought into by the same calls each time, and what the document says of it. No
 * scene needs more than 180 calls, no look at one more than 120: both stay below the 512 that are promised.
 */
enum Scene {
    /** As it is made. */
    NEW(0, 0, 0, true, true) {
        @Override
        void set(OthersHands x) {
        }
    },
    /** A small book, a good text on the pad, nothing kept. */
    SMALL(2, 2, 1, true, true) {
        @Override
        void set(OthersHands x) {
            Books.write(x, "A;a+aB;");
            x.book();
            x.join(0, 1);
            x.loaves(1, 3);
            x.seen(4, 1);
            x.set(0, 1);
            Books.write(x, "C;");
        }
    },
    /** All that can be full is full: signs, things, hands that are not told, sights, partners, images. */
    CROWDED(10, 60, 6, false, true) {
        @Override
        void set(OthersHands x) {
            x.set(2, 3);
            x.join(0, 5);
            Books.write(x, "ABC;aDE?;ab+bF;bc+aAB;bd?;cd+dBC?;f+cEF;fg+aCD;hBD?;bi+cDEF;");
            x.book();
            x.image(0);
            x.part(5);
            x.join(0, 1);
            x.join(3, 2);
            x.join(4, 5);
            x.set(0, 0);
            x.set(1, 1);
            x.set(2, 10);
            for (int thing = 0; thing < 10; thing++) {
                x.loaves(thing, 9);
            }
            x.seen(4, 5);
            x.seen(5, 5);
            for (int man = 0; man < 4; man++) {
                x.seen(man, 6);
            }
            x.image(1);
            Books.write(x, Books.times(60, "A"));
        }
    },
    /** A sight against hands that are told, a text in which more must come, one image of two. */
    NO_WAY(3, 3, 2, false, false) {
        @Override
        void set(OthersHands x) {
            Books.write(x, "?;B;aC?;");
            x.book();
            x.join(2, 5);
            x.loaves(0, 1);
            x.set(0, 9);
            x.image(0);
            x.seen(3, 2);
            x.seen(1, 1);
            Books.write(x, "A;B");
        }
    };

    final int things;
    final int signs;
    final int sights;
    final boolean goodText;
    final boolean aWay;

    Scene(int things, int signs, int sights, boolean goodText, boolean aWay) {
        this.things = things;
        this.signs = signs;
        this.sights = sights;
        this.goodText = goodText;
        this.aWay = aWay;
    }

    abstract void set(OthersHands x);

    OthersHands make() {
        OthersHands x = new OthersHands();
        set(x);
        return x;
    }

    boolean hasPartner(int man) {
        switch (this) {
            case SMALL: return man == 0 || man == 1;
            case CROWDED: return true;
            case NO_WAY: return man == 2 || man == 5;
            default: return false;
        }
    }

    boolean isKept(int image) {
        return this == CROWDED || this == NO_WAY && image == 0;
    }

    /** Something that is done to an object. */
    interface Deed {
        void on(OthersHands x);
    }

    /**
     * All that can be seen of an object behind a deed: what is told, the book, the ways; the text, by its
     * fault and as a book; both images. Each look is at an object of its own.
     */
    List<Long> viewBehind(Deed deed) {
        List<Long> view = new ArrayList<>();
        OthersHands now = make();
        deed.on(now);
        look(now, view);
        OthersHands text = make();
        deed.on(text);
        view.add((long) text.book());
        look(text, view);
        for (int image = 0; image < 2; image++) {
            OthersHands kept = make();
            deed.on(kept);
            view.add((long) kept.restore(image));
            look(kept, view);
        }
        return view;
    }

    private static void look(OthersHands x, List<Long> view) {
        for (int what = 0; what < 30; what++) {
            view.add((long) x.told(what));
        }
        view.add((long) x.fault());
        int things = x.told(1);
        for (int thing = 0; thing < things; thing++) {
            for (int what = 0; what < 5; what++) {
                view.add((long) x.thing(thing, what));
            }
            view.add((long) x.sure(thing, 0));
            view.add((long) x.sure(thing, 1));
        }
        for (int i = -1; i < 5; i++) {
            view.add((long) x.filled(i));
        }
    }
}
