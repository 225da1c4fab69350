/** The document read sentence by sentence: each is quoted by a test of its own, none is left out. */
public final class SentenceTest {
    private SentenceTest() {
    }

    public static void main(String[] args) throws ReflectiveOperationException {
        TermsOfPeople.all();
        TermsOfDay.all();
        TermsOfQuestions.all();
        TermsOfShelves.all();
        Promises.all();
        Said.allQuoted();
        Due.end("SentenceTest");
    }
}
