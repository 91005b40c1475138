import java.lang.annotation.Retention;
import java.lang.annotation.RetentionPolicy;

/** The sentence of ../shared/DOC.md that a test asks, word by word. */
@Retention(RetentionPolicy.RUNTIME)
@interface Says {
    String value();
}
