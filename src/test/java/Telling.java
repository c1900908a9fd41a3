import java.util.ArrayList;
import java.util.List;

/** What one node told of one ring that it was of. */
final class Telling {
    record Word(int place, int sender, int key, long value) {
    }

    final Standing.RingName ring;
    final List<Word> words = new ArrayList<>();
    /** The VALUES of its own messages that got places. */
    final List<Long> own = new ArrayList<>();
    /** MEMBERS of the TRANSITION; 0 as long as there was none. */
    int together;

    Telling(Standing.RingName ring) {
        this.ring = ring;
    }

    int lastPlace() {
        return words.isEmpty() ? 0 : words.get(words.size() - 1).place();
    }

    boolean told(long value) {
        return words.stream().anyMatch(word -> word.value() == value);
    }

    boolean toldPlace(int place) {
        return words.stream().anyMatch(word -> word.place() == place);
    }
}
