import java.util.function.Supplier;

/** All that an object answers, as one text: two objects with like texts are as one. */
final class Everything {
    private final ThanksByPost x;
    private final StringBuilder out = new StringBuilder();

    private Everything(ThanksByPost x) {
        this.x = x;
    }

    /** Of objects made alike: an object is used for 512 calls alone, so each is looked at in one way. */
    static String of(Supplier<ThanksByPost> made) {
        Everything asked = new Everything(made.get());
        asked.ask();
        Everything read = new Everything(made.get());
        read.read();
        Everything back = new Everything(made.get());
        back.takeBack();
        Everything image = new Everything(made.get());
        image.goBack();
        Everything imageSteps = new Everything(made.get());
        imageSteps.x.back();
        imageSteps.takeBack();
        return asked.out + "\ntape " + read.out + "\nundo " + back.out + "\nback " + image.out
            + "\nback and undo " + imageSteps.out;
    }

    private void tell(long answer) {
        out.append(answer).append(' ');
    }

    private void tell(boolean answer) {
        out.append(answer).append(' ');
    }

    private void ask() {
        for (int what = 0; what <= 11; what++) tell(x.about(what));
        for (int owner = 0; owner < x.about(0); owner++) {
            for (int what = 0; what <= 2; what++) tell(x.ofOwner(owner, what));
        }
        for (int thing = 0; thing < x.about(1); thing++) {
            for (int what = 0; what <= 5; what++) tell(x.of(thing, what));
            for (int what = 0; what <= 3; what++) tell(x.law(thing, what));
            tell(x.whose(thing));
        }
        int cards = x.book(-1, 0);
        for (int i = 0; i < cards; i++) {
            for (int what = 0; what <= 3; what++) tell(x.book(i, what));
        }
        tell(x.fault(0));
        tell(x.fault(1));
        tell(x.first());
        tell(x.twice());
        tell(x.rule());
        tell(x.early());
        tell(x.voted(false));
        tell(x.voted(true));
        for (int k = 0; k < x.about(9); k++) tell(x.lying(k, true));
    }

    /** What is on the tape shows by its being read; three texts at most stand ahead of it then. */
    private void read() {
        int length = x.about(11);
        x.back();
        tell(x.text());
        tell(x.fault(0));
        tell(x.fault(1));
        tell(length);
        int number = x.about(5) - 1;
        tell(x.by(number));
        tell(x.played(number));
        ask();
    }

    private void takeBack() {
        int owners = x.about(0);
        int things = x.about(1);
        for (int i = 0; i <= 30; i++) {
            int left = x.undo();
            tell(left);
            if (left < 0) break;
            tell(x.about(3));
            tell(x.about(4));
            tell(x.book(-1, 0));
            tell(x.book(0, 1));
            // Each behind its own steps: all of them behind each would be too many calls for one object.
            int thing = i % Math.max(1, things);
            for (int what : new int[] {0, 3, 4, 5}) tell(x.of(thing, what));
            tell(x.ofOwner(i % Math.max(1, owners), 1));
        }
    }

    private void goBack() {
        tell(x.back());
        ask();
    }
}
