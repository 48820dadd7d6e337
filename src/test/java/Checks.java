/** Counts what was checked and tells what was not as due. */
final class Checks {
    interface Call {
        Object answer();
    }

    interface OfCopy {
        Object answer(int picture, int family);
    }

    interface OfOne {
        Object answer(int number);
    }

    private int made = 0;
    private int wrong = 0;
    private String about = "";

    /** Tells what the checks from now on are about. */
    void setAbout(String words) {
        about = words;
    }

    int made() {
        return made;
    }

    void due(String what, Object want, Object got) {
        made++;
        if (!want.equals(got)) {
            wrong++;
            if (wrong <= 40) {
                System.out.println(about + what + " answered " + got + ", due is " + want);
            }
        }
    }

    void isThrown(String what, Class<? extends RuntimeException> want, Call call) {
        due(what, "throws " + want.getSimpleName(), outcome(call));
    }

    /** Calls with a picture or a family that does not exist. */
    void outside(String name, VillagePhotos archive, OfCopy call) {
        for (int picture : numbersBeyond(archive.count(2))) {
            isThrown(name + " of picture " + picture, IndexOutOfBoundsException.class, () -> call.answer(picture, 0));
        }
        for (int family : numbersBeyond(archive.count(1))) {
            isThrown(name + " of family " + family, IndexOutOfBoundsException.class, () -> call.answer(0, family));
        }
    }

    /** Calls with one number that does not exist, where there are so many. */
    void outsideOne(String name, int many, OfOne call) {
        for (int number : numbersBeyond(many)) {
            isThrown(name + " of " + number, IndexOutOfBoundsException.class, () -> call.answer(number));
        }
    }

    /** Calls with one number that is not allowed. */
    void refusesNumbers(String name, OfOne call, int... numbers) {
        for (int number : numbers) {
            isThrown(name + " with " + number, IllegalArgumentException.class, () -> call.answer(number));
        }
    }

    private static int[] numbersBeyond(int many) {
        return new int[] {-1, many, many + 1, 64, Integer.MIN_VALUE, Integer.MAX_VALUE};
    }

    /** The answer of a call, or the name of what it threw. */
    static Object outcome(Call call) {
        try {
            return call.answer();
        } catch (RuntimeException thrown) {
            return "throws " + thrown.getClass().getSimpleName();
        }
    }

    void end(String name) {
        System.out.println(name + ": " + made + " checks, " + wrong + " not as due");
        if (wrong != 0 || made == 0) {
            System.exit(1);
        }
    }
}
