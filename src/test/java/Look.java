/** All that the calls without effect answer, as a text, so that what is so at two moments can be compared. */
final class Look {
    private Look() {
    }

    static String all(CampAshes x) {
        return world(x) + latest(x) + " tape " + x.count(4) + " fault " + x.fault();
    }

    /** The CAMP, all that is so, and of whom the SENTENCE is said. */
    static String world(CampAshes x) {
        StringBuilder text = new StringBuilder();
        for (int what = 0; what < 4; what++) {
            text.append(x.count(what)).append(' ');
        }
        for (int what = 0; what < 8; what++) {
            text.append(x.now(what)).append(' ');
        }
        for (int kind = 0; kind < 4; kind++) {
            text.append(x.takes(kind)).append('/').append(x.ashes(kind)).append(' ');
        }
        for (int b = 0; b < x.count(0); b++) {
            text.append("boy ");
            for (int what = 0; what < 6; what++) {
                text.append(x.boy(b, what)).append(' ');
            }
        }
        for (int e = 0; e < x.count(1); e++) {
            text.append("event ");
            for (int what = 0; what < 4; what++) {
                text.append(x.event(e, what)).append(' ');
            }
            for (int b = 0; b < x.count(0); b++) {
                text.append(x.on(e, b)).append(' ');
            }
        }
        text.append("said ");
        int said = x.said(-1);
        text.append(said);
        for (int k = 0; k < said; k++) {
            text.append(' ').append(x.said(k));
        }
        return text.toString();
    }

    /** What is left of the latest best(), spread(), says(), laws(), tag() and book(). */
    static String latest(CampAshes x) {
        StringBuilder text = new StringBuilder(" best");
        for (int k = 0; k < 100 && x.bestAt(k) != -1; k++) {
            text.append(' ').append(x.bestAt(k));
        }
        text.append(" spread");
        for (int b = 0; b < 100 && x.spreadOf(b) != -1; b++) {
            text.append(' ').append(x.spreadOf(b));
        }
        text.append(" saying ").append(x.saying()).append(" watch ").append(x.watch()).append(" tag ");
        for (int i = 0; i < 100 && x.byteAt(i) != -1; i++) {
            text.append((char) x.byteAt(i));
        }
        text.append(" told");
        for (int what = 0; what < 4; what++) {
            text.append(' ').append(x.told(what));
        }
        return text.toString();
    }
}
