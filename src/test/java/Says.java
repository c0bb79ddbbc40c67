import java.lang.annotation.Retention;
import java.lang.annotation.RetentionPolicy;

/** The sentence of the document whose boundary a test stands at, and where the document says it. */
@Retention(RetentionPolicy.RUNTIME)
@interface Says {
    String in();

    String value();
}
