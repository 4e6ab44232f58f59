/** Filled objects, and all that can be asked of one, to see that a call has changed nothing. */
final class Witness {
    private static final int MOST_CALLS = 512;
    /** THE TEXT of 100 bytes that full() has fed. */
    static final String LONGEST = "dear 9 !!!!b=1&(l>3|f<2)&(k=0|k=4);cheap 2 ((((v<5))))|d=7;gain 11;top 09;"
        + "gain 2;cheap 99 b>55;top 7";

    private final AirByYard x;
    private final StringBuilder told = new StringBuilder();
    private int asked = 0;

    private Witness(AirByYard x) { this.x = x; }

    /** A new one, with something of all there is, and room for more. */
    static AirByYard half() {
        AirByYard x = new AirByYard();
        x.bird(Due.TOLD, 3, 1, 2, 22, 4);
        x.bird(Due.HAWK, 8, 2, 3, 6, 5);
        x.bird(Due.LARK, 2, 6, 1, 10, 3);
        x.bird(Due.SINGER, 5, 0, 2, 21, 6);
        for (int part = 0; part < 4; part++) x.row(0, part, 2 * part + 1);
        Due.read(x, "dear 2 l>3;gain 7;top 9");
        x.pass(3);
        x.see(1, 2, true, 1);
        x.lease(1, 4, 5);
        x.book(3, 97);
        x.image();
        Due.read(x, "gain 3;dear 1 b=2;top 8");
        x.evict(3, true);
        x.set(0, 4, 77);
        x.row(0, 2, 8);
        x.pass(2);
        x.see(7, 7, false, 2);
        x.see(7, 10, true, 0);
        x.lease(0, 3, 21);
        x.book(0, 67);
        Due.feed(x, "gain 9;top 6");
        tapes(x, 3, 4, 2, 2, -1, 0);
        x.act(2, 2, 5);
        return x;
    }

    /** A new one that is full but for a sixth ESTUARY, which THE TEXT of 100 bytes can be. */
    static AirByYard full() {
        AirByYard x = new AirByYard();
        for (int kind = 0; kind < 6; kind++) x.bird(kind, 9 - kind, kind, 2 + kind % 3, 4 * kind, 3 + kind);
        for (int e = 0; e < 4; e++) Due.read(x, "gain " + e);
        x.pass(2);
        x.see(1, 2, true, 1);
        x.image();
        x.bird(6, 1, 9, 10, 23, 24);
        x.row(6, 2, 9);
        Due.read(x, "gain 3;top 8");
        x.see(7, 7, false, 2);
        x.see(7, 10, true, 0);
        x.see(9, 23, false, 20);
        x.see(3, 12, false, 0);
        for (int r = 0; r < 6; r++) x.lease(6 - r, r + 1, 3 * r);
        for (int r = 0; r < 8; r++) x.book(r % 7, x.of(r % 7, 6) + r / 7);
        Due.feed(x, LONGEST);
        tapes(x, 60, 60, 60, 60, 60, 60);
        x.act(6, 2, 5);
        return x;
    }

    /** A row of longs, of ints, of bytes, of booleans, of longs again, of shorts; of a size below 0 nothing. */
    private static void tapes(AirByYard x, int... sizes) {
        int[] sorts = {3, 2, 0, 4, 3, 1};
        for (int t = 0; t < 6; t++) {
            x.tape(t, sizes[t] < 0 ? -1 : sorts[t], sizes[t]);
            x.item(t, 0, 1L << 40 | 70 + t);
            x.item(t, sizes[t] - 1, 90 + t);
        }
    }

    /** All that can be asked of it, an answer a line; it is used up then. */
    static String look(AirByYard x) {
        Witness w = new Witness(x);
        w.counts();
        w.birds();
        w.air();
        w.days();
        w.reckoned();
        w.tapesAsTold();
        w.itemsAndRows();
        w.estuaryOfTheText();
        w.imageTaken();
        if (w.asked > MOST_CALLS - 205) Due.fail("a look asks " + w.asked + " calls, too many");
        return w.told.toString();
    }

    private void say(String call, long answer) {
        asked++;
        told.append(call).append(" -> ").append(answer).append('\n');
    }

    private void counts() {
        for (int what = 0; what <= 6; what++) say("count(" + what + ")", x.count(what));
        for (int i = 0; i < 13; i++) say("trace(" + i + ")", x.trace(i));
    }

    private void birds() {
        for (int b = 0; b < 7; b++) {
            for (int what = 0; what <= 9; what++) say("of(" + b + ", " + what + ")", x.of(b, what));
        }
    }

    private void air() {
        for (int what = 0; what <= 6; what++) say("told(" + what + ")", x.told(what));
        for (int hour = 1; hour < 24; hour += 3) say("free(" + hour + ")", x.free(hour));
        say("worst()", x.worst());
    }

    private void days() {
        for (int b = 0; b < 7; b++) say("on(3, " + (20 + b) + ")", x.on(3, 20 + b));
        say("on(9, 0)", x.on(9, 0));
        say("empty(0)", x.empty(0));
    }

    private void reckoned() {
        for (int b = 0; b < 7; b += 2) say("can(" + b + ", 0)", x.can(b, 0));
        for (int what = 0; what < 2; what++) say("leased(" + what + ")", x.leased(what));
        say("looked()", x.looked());
    }

    private void tapesAsTold() {
        for (int t = 0; t < 6; t++) {
            for (int i : new int[] {0, 1, 2, 3, 59}) say("read(" + t + ", " + i + ")", x.read(t, i));
        }
    }

    /** An item tells by what becomes of it which sort a row is of; a ROW is told by becoming another. */
    private void itemsAndRows() {
        for (int t = 0; t < 6; t++) {
            say("item(" + t + ", 0)", x.item(t, 0, -1L << 33 | 70007));
            say("read(" + t + ", 0) then", x.read(t, 0));
        }
        for (int part = 0; part < 4; part++) {
            say("row(0, " + part + ", 0)", x.row(0, part, 0));
            say("row(6, " + part + ", 0)", x.row(6, part, 0));
        }
    }

    private void estuaryOfTheText() {
        say("estuary()", x.estuary());
        for (int what = 1; what <= 6; what++) say("told(" + what + ") then", x.told(what));
        say("of(0, 10) then", x.of(0, 10));
    }

    private void imageTaken() {
        say("undo()", x.undo());
        for (int what = 0; what <= 6; what++) say("told(" + what + ") of the image", x.told(what));
        for (int what = 0; what <= 4; what++) say("count(" + what + ") of the image", x.count(what));
        for (int b = 0; b < 7; b++) {
            say("of(" + b + ", 6) of the image", x.of(b, 6));
            say("of(" + b + ", 9) of the image", x.of(b, 9));
        }
        for (int part = 0; part < 4; part++) say("row(0, " + part + ", 0) of the image", x.row(0, part, 0));
        say("can(0, 0) of the image", x.can(0, 0));
        say("leased(0) of the image", x.leased(0));
        say("looked() of the image", x.looked());
    }
}
