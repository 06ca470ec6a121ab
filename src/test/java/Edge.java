import java.lang.annotation.Retention;
import java.lang.annotation.RetentionPolicy;

/** A test of one sentence that names an edge: of which promise or term it is, and what it says, word by word. */
@Retention(RetentionPolicy.RUNTIME)
@interface Edge {
    String of();

    String says();
}
