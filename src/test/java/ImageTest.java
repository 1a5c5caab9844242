/** Promises 18 and 19: the IMAGE. */
public final class ImageTest {
    private static final Check check = new Check();

    public static void main(String[] args) {
        refusals();
        keepsAll();
        theLatest();
        leavesThePage();
        notOfAnotherRoom();
        check.finish("ImageTest");
    }

    private static void refusals() {
        EndedByOthers x = new EndedByOthers();
        check.due("image() in no room", EndedByOthers.STATE, x.image());
        check.due("restore() in no room", EndedByOthers.STATE, x.restore());
        EndedByOthers y = Check.inRoom("a,b,c,d;sa,sb");
        y.begin(0, 0);
        long before = y.digest();
        check.due("restore(), none kept", EndedByOthers.STATE, y.restore());
        check.due("digest() then", before, y.digest());
    }

    private static void keepsAll() {
        EndedByOthers x = Check.inRoom("abc,abc,abc,f;pa,pb,hf");
        x.begin(0, 0);
        x.end(0, 1);
        x.begin(1, 2);
        x.want(0, 3);
        x.hear(2, 0, -1);
        long before = x.digest();
        check.due("image()", 2, x.image());
        check.due("digest() behind image()", before, x.digest());
        x.end(1, 0);
        x.begin(0, 1);
        x.end(2, 1);
        x.begin(0, 3);
        x.want(0, 5);
        x.want(2, 0);
        x.hear(2, 0, 0);
        x.forget();
        x.hear(1, 3, 5);
        x.hear(2, 1, 1);
        x.hear(0, 2, 2);
        check.due("restore()", 2, x.restore());
        check.due("digest() behind restore()", before, x.digest());
        check.due("WANTED by 0", 3, x.about(0, 1));
        check.due("used by 0", 0, x.about(0, 2));
        check.due("used by 1", 4, x.about(1, 2));
        check.due("open of 1", 1, x.about(1, 3));
        check.due("count(5)", 1, x.count(5));
        check.due("count(6)", 1, x.count(6));
        check.due("KINDS of 2", 2, x.about(2, 7));
        check.due("end(1, 0) anew", 2, x.end(1, 0));
        x.want(1, 4);
        check.due("restore() again", 2, x.restore());
        check.due("digest() behind restore() again", before, x.digest());
        check.due("sentence(1, 2) is open", EndedByOthers.NONE, x.sentence(1, 2));
    }

    private static void theLatest() {
        EndedByOthers x = Check.inRoom("a,b,c,d;sa,sb");
        check.due("image() of none", 0, x.image());
        x.begin(0, 0);
        check.due("image() of one", 1, x.image());
        x.begin(1, 0);
        check.due("restore() of one", 1, x.restore());
        check.due("count(1)", 1, x.count(1));
        check.due("about(1, 3)", EndedByOthers.NONE, x.about(1, 3));
    }

    private static void leavesThePage() {
        EndedByOthers x = Check.inRoom("a,b,c,d;sa,sb");
        Check.type(x, "xy");
        x.image();
        x.letter('z');
        x.restore();
        check.due("THE PAGE behind restore()", 3, x.count(7));
        check.due("rooms read behind restore()", 1, x.count(8));
    }

    private static void notOfAnotherRoom() {
        EndedByOthers x = Check.inRoom("a,b,c,d;sa,sb");
        x.begin(0, 0);
        x.image();
        Check.type(x, "a,b,c,d;sa,s");
        check.due("room() that is none", EndedByOthers.STATE, x.room());
        check.due("restore() behind that", 1, x.restore());
        x.letter('b');
        check.due("room() of the same text", 2, x.room());
        long before = x.digest();
        check.due("restore() in another", EndedByOthers.STATE, x.restore());
        check.due("digest() then", before, x.digest());
        check.due("image() there", 0, x.image());
        x.begin(1, 1);
        check.due("restore() there", 0, x.restore());
        check.due("count(1) there", 0, x.count(1));
    }
}
