/** Objects that several tests begin with. */
final class Made {
    private Made() {
    }

    /** Nothing is as at first: two SISTERS, both kept, 5 deeds, 2 SEEN (by the first alone), a TEXT. */
    static SieveTub busy() {
        SieveTub tub = Check.tell("lined 5;plain 3 20;torn 2;lazy 2 30;open 1;frost 4 6;hole 5;tub 60");
        tub.begin(0);
        tub.moss(1);
        tub.keep(0);
        tub.smear(1);
        tub.go(4);
        tub.seen(1, 0);
        tub.seen(3, 10);
        tub.keep(1);
        tub.begin(1);
        Check.write(tub, "hole 7;tub 9");
        return tub;
    }

    /** The text is told, and those of the set (by bits) have begun. */
    static SieveTub begun(String text, int set) {
        SieveTub tub = Check.tell(text);
        for (int s = 0; s < 5; s++) {
            if ((set >> s & 1) != 0) {
                tub.begin(s);
            }
        }
        return tub;
    }

    /** It is that MINUTE, reached by as few calls as can be. */
    static SieveTub inMinute(SieveTub tub, int minute) {
        while (tub.count(1) < minute) {
            tub.go(Math.min(99, minute - tub.count(1)));
        }
        return tub;
    }
}
