/** Promises 1 to 3 and 39: a new object, feed, end, count. */
public final class TapeTest {
    public static void main(String[] args) {
        aNewObject();
        feedAndEnd();
        highestByteFirst();
        whoEmptiesTheTape();
        counts();
        Check.close();
    }

    private static void aNewObject() {
        CampAshes x = new CampAshes();
        Check.due("new: boys", x.count(0), 0);
        Check.due("new: events", x.count(1), 0);
        Check.due("new: turf", x.count(2), 1);
        Check.due("new: wet", x.count(3), 0);
        Check.due("new: tape", x.count(4), 0);
        Check.due("new: day", x.now(0), 0);
        Check.due("new: heat", x.now(1), 10);
        Check.due("new: logs", x.now(2), 2);
        Check.due("new: fault", x.fault(), 0);
        Check.due("new: undo", x.undo(), -1);
        Check.due("new: said", x.said(-1), -1);
    }

    private static void feedAndEnd() {
        CampAshes x = new CampAshes();
        for (int i = 1; i <= 47; i++) {
            Check.due("feed " + i, x.feed(0, 0, 0, 0, 0), 20 * i);
        }
        Check.due("feed 48", x.feed(0, 0, 0, 0, 0), -1);
        Check.due("tape behind it", x.count(4), 940);
        Check.due("end(941)", x.end(941), false);
        Check.due("end(-1)", x.end(-1), false);
        Check.due("end(940)", x.end(940), true);
        Check.due("end(921)", x.end(921), true);
        Check.due("feed at 921", x.feed(0, 0, 0, 0, 0), -1);
        Check.due("end(922)", x.end(922), false);
        Check.due("end(920)", x.end(920), true);
        Check.due("feed at 920", x.feed(0, 0, 0, 0, 0), 940);
        Check.due("end(0)", x.end(0), true);
        Check.due("tape", x.count(4), 0);
        Check.due("end(1)", x.end(1), false);
    }

    private static void highestByteFirst() {
        CampAshes x = new CampAshes();
        x.feed(0x0A0B0905, 0, 0, 0, 0);
        x.end(3);
        Check.due("laws of 10, 11, 9", x.laws(), 1);
        x.feed(0x0AFFFAFF, 0, 0, 0, 0);
        x.end(3);
        Check.due("laws of 10, 255, 250", x.laws(), 8);
        x.feed(0, 0, 0, 0, 0x0A0B0900);
        x.end(19);
        Check.due("laws of 19 bytes", x.laws(), -1);
    }

    private static void whoEmptiesTheTape() {
        CampAshes x = Check.camp("boy a 1;");
        Check.due("behind camp", x.count(4), 0);
        Check.campOf(x, "boy");
        Check.due("behind a camp with a fault", x.count(4), 0);
        Check.bookOf(x, "log;", 2);
        Check.due("behind book(2)", x.count(4), 4);
        Check.bookOf(x, "log;", 0);
        Check.due("behind book(0)", x.count(4), 0);
        Check.bookOf(x, "log", 1);
        Check.due("behind a book with a fault", x.count(4), 0);
        Check.sentenceOf(x, "over");
        Check.due("behind sentence", x.count(4), 0);
        Check.sentenceOf(x, "ever");
        Check.due("behind a sentence with a fault", x.count(4), 0);
        Check.lawsOf(x, 10, 5, 0);
        Check.due("behind laws", x.count(4), 0);
        Check.lawsOf(x, 0, 5, 0);
        Check.due("behind laws not as told", x.count(4), 0);
        Check.type(x, "over");
        x.best();
        x.image(0);
        x.restore(0);
        x.days(1);
        x.undo();
        Check.due("behind others", x.count(4), 4);
    }

    private static void counts() {
        CampAshes x = Check.camp("boy a 1; boy b 2; event c a joy 1; turf 7; wet 9;");
        Check.due("boys", x.count(0), 2);
        Check.due("events", x.count(1), 1);
        Check.due("turf", x.count(2), 7);
        Check.due("wet", x.count(3), 9);
        Check.due("count(5)", x.count(5), -1);
        Check.due("count(-1)", x.count(-1), -1);
    }
}
