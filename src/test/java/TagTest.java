/** Promises 29 and 30: tag and byteAt. */
public final class TagTest {
    public static void main(String[] args) {
        CampAshes x = Check.camp("boy abe 10;boy zzzzzzz 60;boy m 9;event e abe joy 14;event f m joy 9;event g zzzzzzz fear 40;"
            + "event h zzzzzzz fear 40;event i zzzzzzz fear 40;");
        Check.due("ahead of any", x.byteAt(0), -1);
        Check.due("tag(3)", x.tag(3), -1);
        Check.due("tag(-1)", x.tag(-1), -1);
        Check.due("over", Check.tagOf(x, 0), "abe bears 14 of 10 weeps");
        Check.due("not over", Check.tagOf(x, 2), "m bears 9 of 9");
        Check.due("the longest", Check.tagOf(x, 1), "zzzzzzz bears 120 of 60 weeps");
        Check.due("its bytes", x.tag(1), 29);
        Check.due("the last byte", x.byteAt(28), 's');
        Check.due("behind it", x.byteAt(29), -1);
        Check.due("byteAt(-1)", x.byteAt(-1), -1);
        Check.due("no such one", x.tag(3), -1);
        Check.due("the latest tag stays", x.byteAt(0), 'z');
        x.tag(2);
        Check.due("a shorter one", x.byteAt(14), -1);
        x.tell(2, 1);
        x.days(1);
        x.tell(2, 1);
        Check.due("a tag stays as it was", x.byteAt(8), '9');
        Check.due("nothing on him", Check.tagOf(x, 2), "m bears 0 of 9");
        Check.close();
    }
}
