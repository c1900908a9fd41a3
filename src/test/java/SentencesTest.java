/** One test for each sentence of the document that says what the class does, its edges above all. */
public final class SentencesTest {
    public static void main(String[] args) {
        Checks checks = new Checks("SentencesTest");
        Sentences sentences = new Sentences(checks);
        new WhatItIsSentences(checks).hold(sentences);
        new TermsSentences(checks).hold(sentences);
        new PassSentences(checks).hold(sentences);
        new GatherSentences(checks).hold(sentences);
        new ApplyAndLogSentences(checks).hold(sentences);
        new CallSentences(checks).hold(sentences);
        sentences.nothingLeft("What it is");
        sentences.nothingLeft("Terms");
        for (int promise = 1; promise <= 12; promise++) {
            sentences.nothingLeft("Promise " + promise);
        }
        checks.end();
    }
}
