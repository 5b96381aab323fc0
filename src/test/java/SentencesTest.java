import java.io.IOException;
import java.util.List;
import java.util.Map;

/** Each sentence of the document has a test of its own, which looks at the boundary cases that it names. */
public final class SentencesTest {
  public static void main(String[] args) throws IOException {
    ConventionsSentences.test();
    TermsSentences.test();
    TextsSentences.test();
    ChangesSentences.test();
    QueriesSentences.test();
    WhatIfSentences.test();
    PadSentences.test();
    HistorySentences.test();
    eachTestLooksAtAnAnswer();
    if (Document.isThere()) {
      eachSentenceIsTested(Document.sentences());
    } else {
      System.out.println("there is no DOC.md in ../shared: the sentences were tested, but not compared with it");
    }
    Checks.end("SentencesTest");
  }

  private static void eachTestLooksAtAnAnswer() {
    for (Map.Entry<String, Integer> tested : Sentence.tested().entrySet()) {
      Checks.due("answers looked at for '" + tested.getKey() + "'", tested.getValue() > 0 ? 1 : 0, 1);
    }
  }

  private static void eachSentenceIsTested(List<String> sentences) {
    for (String sentence : sentences) {
      Checks.due("tests of '" + sentence + "'", Sentence.tested().containsKey(sentence) ? 1 : 0, 1);
    }
    for (String tested : Sentence.tested().keySet()) {
      Checks.due("the document says '" + tested + "'", sentences.contains(tested) ? 1 : 0, 1);
    }
  }
}
