/** What every test here shares: answers held against those that are due. */
final class Due {
    private static int wrong = 0;
    private static String about = "";

    private Due() {
    }

    /** Which sentence of the document the next answers are held to. */
    static void about(String sentence) {
        about = sentence;
    }

    static void is(String call, long got, long want) {
        if (got != want) {
            say(call + " answered " + got + ", due is " + want);
        }
    }

    static void isTrue(String what, boolean so) {
        if (!so) {
            say("not so: " + what);
        }
    }

    private static void say(String fault) {
        wrong++;
        System.out.println((about.isEmpty() ? "" : "[" + about + "] ") + fault);
    }

    static void type(ShornSins x, int text, String bytes) {
        int had = bytes.isEmpty() ? 0 : x.count(2 + text);
        for (int i = 0; i < bytes.length(); i++) {
            is("type(" + text + ", '" + bytes.charAt(i) + "')", x.type(text, bytes.charAt(i)), had + i + 1);
        }
    }

    static ShornSins told(String people, String deeds) {
        ShornSins x = new ShornSins();
        type(x, 0, people);
        type(x, 1, deeds);
        return x;
    }

    static void end() {
        if (wrong != 0) {
            System.out.println(wrong + " answers are not as due");
            System.exit(1);
        }
    }
}
