/** Feeds texts, so that a test shows its program as one reads it. */
final class Texts {
    private Texts() {
    }

    static int feed(SpillPlanner x, String text) {
        int length = 0;
        for (char character : text.toCharArray()) {
            length = x.feed(character);
        }
        return length;
    }

    static int read(SpillPlanner x, int block, String text) {
        feed(x, text);
        return x.read(block);
    }

    /** A new object with one block for each text. */
    static SpillPlanner program(String... blocks) {
        SpillPlanner x = new SpillPlanner();
        write(x, blocks);
        return x;
    }

    /** Begins a new program with one block for each text. */
    static void write(SpillPlanner x, String... blocks) {
        x.clear(blocks.length);
        for (int b = 0; b < blocks.length; b++) {
            int answer = read(x, b, blocks[b]);
            if (answer < 0) {
                throw new IllegalArgumentException(blocks[b] + " is at fault: " + answer);
            }
        }
    }

    static void setFrequencies(SpillPlanner x, int... frequencies) {
        for (int b = 0; b < frequencies.length; b++) {
            x.setFrequency(b, frequencies[b]);
        }
    }
}
