/** A sentence of the document, or a part of one, and the answers by which it holds. */
final class Says {
    private final String label;

    Says(int promise, String sentence) {
        label = "P" + promise + " \"" + sentence + "\": ";
    }

    Says is(String call, long got, long want) {
        Due.is(label + call, got, want);
        return this;
    }

    Says is(String call, boolean got, boolean want) {
        Due.is(label + call, got, want);
        return this;
    }

    /** Two objects that answer alike, whatever they are asked of how all is. */
    Says alike(String call, WolfsHead one, WolfsHead other) {
        String got = Scene.all(one);
        String want = Scene.all(other);
        Due.is(label + call + ": [" + got + "] is not [" + want + "]", got.equals(want), true);
        return this;
    }
}
