import java.lang.annotation.ElementType;
import java.lang.annotation.Retention;
import java.lang.annotation.RetentionPolicy;
import java.lang.annotation.Target;

/** The sentence of the document that a test holds the class to, word for word, and the promise it stands in. */
@Retention(RetentionPolicy.RUNTIME)
@Target(ElementType.METHOD)
@interface HelperPromise {
    /** 0: it stands ahead of promise 1, mostly in the terms. */
    int value();

    String says();
}
