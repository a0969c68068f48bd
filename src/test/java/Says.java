import java.lang.annotation.ElementType;
import java.lang.annotation.Retention;
import java.lang.annotation.RetentionPolicy;
import java.lang.annotation.Target;

/** A boundary case of one sentence of the document: the test below it fails if it is broken. */
@Retention(RetentionPolicy.RUNTIME)
@Target(ElementType.METHOD)
@interface Says {
    /** 0: the sentence stands in "Terms" and binds several promises. */
    int promise();

    /** The words of the document, or a part of them. */
    String text();
}
