/** What every test here shares: answers held against those that are due. */
final class Due {
    private static int wrong = 0;

    private Due() {
    }

    static void is(String call, long got, long want) {
        if (got != want) {
            wrong++;
            System.out.println(call + " answered " + got + ", due is " + want);
        }
    }

    static void type(ShornSins x, int text, String bytes) {
        for (int i = 0; i < bytes.length(); i++) {
            is("type(" + text + ", '" + bytes.charAt(i) + "')", x.type(text, bytes.charAt(i)), x.count(2 + text));
        }
    }

    static ShornSins told(String people, String deeds) {
        ShornSins x = new ShornSins();
        type(x, 0, people);
        type(x, 1, deeds);
        return x;
    }

    static void end() {
        if (wrong != 0) {
            System.out.println(wrong + " answers are not as due");
            System.exit(1);
        }
    }
}
