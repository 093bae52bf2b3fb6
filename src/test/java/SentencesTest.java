/** Every sentence of the document, above all those that name a bound: each has a test of its own, by its words. */
final class SentencesTest {
    public static void main(String[] args) {
        WhatIsTold.hold();
        WhatGoesBy.hold();
        WhatIsPlanned.hold();
        WhatWasSeen.hold();
        WhatIsWritten.hold();
        Doc.allHaveTests();
        Due.end();
    }
}
