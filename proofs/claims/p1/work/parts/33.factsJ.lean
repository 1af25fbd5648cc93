/-! ===== words of the JDK, of casts, statics and clones ===== -/
def gwl_J2 : List Cond := [(Jvm.Cond.initialized "java/lang/Integer"), (Jvm.Cond.initialized "java/util/ArrayList$Itr"), (Jvm.Cond.initialized "java/lang/StringBuilder"), (Jvm.Cond.initialized "java/lang/String"), (Jvm.Cond.initialized "java/lang/StringIndexOutOfBoundsException"), (Jvm.Cond.initialized "java/lang/ArrayIndexOutOfBoundsException"), (Jvm.Cond.classLink "WavesaleLaw" (8 : Nat) "Wavesale"), (Jvm.Cond.classLink "Wavesale" (9 : Nat) "Wavesale$Terms"), (Jvm.Cond.classLink "Wavesale" (16 : Nat) "Wavesale$Clock"), (Jvm.Cond.classLink "Wavesale$Clock" (30 : Nat) "[[I"), (Jvm.Cond.classLink "Wavesale" (26 : Nat) "Wavesale$Market"), (Jvm.Cond.classLink "Wavesale$Market" (15 : Nat) "[[I"), (Jvm.Cond.classLink "Wavesale" (33 : Nat) "Wavesale$Payments"), (Jvm.Cond.classLink "Wavesale$Payments" (9 : Nat) "[[I"), (Jvm.Cond.classLink "Wavesale" (40 : Nat) "Wavesale$Names"), (Jvm.Cond.classLink "Wavesale$Names" (9 : Nat) "[[I"), (Jvm.Cond.classLink "Wavesale" (47 : Nat) "Wavesale$Stations"), (Jvm.Cond.classLink "Wavesale" (293 : Nat) "java/lang/StringBuilder"), (Jvm.Cond.instantiable "java/lang/StringBuilder" (4 : Nat)), (Jvm.Cond.methodLink "java/lang/StringBuilder" (1 : Nat) ({ cls := "java/lang/AbstractStringBuilder", name := "<init>", desc := "(I)V" } : Jvm.MethodName)), (Jvm.Cond.methodLink "java/lang/AbstractStringBuilder" (3 : Nat) ({ cls := "java/lang/Object", name := "<init>", desc := "()V" } : Jvm.MethodName)), (Jvm.Cond.fieldLink "java/lang/AbstractStringBuilder" (18 : Nat) "java/lang/String" "COMPACT_STRINGS" "Z"), (Jvm.Cond.methodLink "java/lang/AbstractStringBuilder" (26 : Nat) ({ cls := "java/lang/StringUTF16", name := "newBytesFor", desc := "(I)[B" } : Jvm.MethodName)), (Jvm.Cond.methodLink "java/lang/StringUTF16" (11 : Nat) ({ cls := "java/lang/StringUTF16", name := "newBytesLength", desc := "(I)I" } : Jvm.MethodName)), (Jvm.Cond.constant "java/lang/StringUTF16" (20 : Nat) (1073741823 : Int32)), (Jvm.Cond.fieldLink "java/lang/AbstractStringBuilder" (15 : Nat) "java/lang/AbstractStringBuilder" "value" "[B"), (Jvm.Cond.fieldLink "java/lang/AbstractStringBuilder" (22 : Nat) "java/lang/AbstractStringBuilder" "coder" "B"), (Jvm.Cond.fieldLink "java/lang/AbstractStringBuilder" (73 : Nat) "java/lang/AbstractStringBuilder" "maybeLatin1" "Z"), (Jvm.Cond.fieldLink "java/lang/String" (1048 : Nat) "java/lang/AbstractStringBuilder" "maybeLatin1" "Z"), (Jvm.Cond.fieldLink "java/lang/AbstractStringBuilder" (79 : Nat) "java/lang/AbstractStringBuilder" "count" "I"), (Jvm.Cond.methodLink "java/lang/StringBuilder" (333 : Nat) ({ cls := "java/lang/AbstractStringBuilder", name := "setLength", desc := "(I)V" } : Jvm.MethodName)), (Jvm.Cond.classLink "java/lang/AbstractStringBuilder" (129 : Nat) "java/lang/StringIndexOutOfBoundsException"), (Jvm.Cond.instantiable "java/lang/StringIndexOutOfBoundsException" (6 : Nat)), (Jvm.Cond.methodLink "java/lang/AbstractStringBuilder" (131 : Nat) ({ cls := "java/lang/StringIndexOutOfBoundsException", name := "<init>", desc := "(I)V" } : Jvm.MethodName)), (Jvm.Cond.classLink "java/lang/StringIndexOutOfBoundsException" (10 : Nat) "java/lang/StringBuilder"), (Jvm.Cond.methodLink "java/lang/StringIndexOutOfBoundsException" (12 : Nat) ({ cls := "java/lang/StringBuilder", name := "<init>", desc := "()V" } : Jvm.MethodName)), (Jvm.Cond.methodLink "java/lang/StringIndexOutOfBoundsException" (15 : Nat) ({ cls := "java/lang/StringBuilder", name := "append", desc := "(Ljava/lang/String;)Ljava/lang/StringBuilder;" } : Jvm.MethodName)), (Jvm.Cond.methodLink "java/lang/StringBuilder" (29 : Nat) ({ cls := "java/lang/AbstractStringBuilder", name := "append", desc := "(Ljava/lang/String;)Ljava/lang/AbstractStringBuilder;" } : Jvm.MethodName)), (Jvm.Cond.methodLink "java/lang/AbstractStringBuilder" (204 : Nat) ({ cls := "java/lang/AbstractStringBuilder", name := "appendNull", desc := "()Ljava/lang/AbstractStringBuilder;" } : Jvm.MethodName)), (Jvm.Cond.methodLink "java/lang/AbstractStringBuilder" (100 : Nat) ({ cls := "java/lang/AbstractStringBuilder", name := "ensureCapacityInternal", desc := "(I)V" } : Jvm.MethodName)), (Jvm.Cond.methodLink "java/lang/AbstractStringBuilder" (104 : Nat) ({ cls := "java/lang/AbstractStringBuilder", name := "newCapacity", desc := "(I)I" } : Jvm.MethodName)), (Jvm.Cond.methodLink "java/lang/AbstractStringBuilder" (114 : Nat) ({ cls := "jdk/internal/util/ArraysSupport", name := "newLength", desc := "(III)I" } : Jvm.MethodName)), (Jvm.Cond.methodLink "jdk/internal/util/ArraysSupport" (194 : Nat) ({ cls := "java/lang/Math", name := "max", desc := "(II)I" } : Jvm.MethodName)), (Jvm.Cond.constant "jdk/internal/util/ArraysSupport" (200 : Nat) (2147483639 : Int32)), (Jvm.Cond.methodLink "jdk/internal/util/ArraysSupport" (201 : Nat) ({ cls := "jdk/internal/util/ArraysSupport", name := "hugeLength", desc := "(II)I" } : Jvm.MethodName)), (Jvm.Cond.constant "java/lang/AbstractStringBuilder" (39 : Nat) (2147483647 : Int32)), (Jvm.Cond.methodLink "java/lang/AbstractStringBuilder" (108 : Nat) ({ cls := "java/util/Arrays", name := "copyOf", desc := "([BI)[B" } : Jvm.MethodName)), (Jvm.Cond.methodLink "java/util/Arrays" (310 : Nat) ({ cls := "[B", name := "clone", desc := "()Ljava/lang/Object;" } : Jvm.MethodName)), (Jvm.Cond.sameMethod "[B" "java/lang/Object" "clone" "()Ljava/lang/Object;"), (Jvm.Cond.native ({ cls := "java/lang/Object", name := "clone", desc := "()Ljava/lang/Object;" } : Jvm.MethodName)), (Jvm.Cond.instanceMethod ({ cls := "java/lang/Object", name := "clone", desc := "()Ljava/lang/Object;" } : Jvm.MethodName)), (Jvm.Cond.selects "[B" ({ cls := "[B", name := "clone", desc := "()Ljava/lang/Object;" } : Jvm.MethodName) ({ cls := "java/lang/Object", name := "clone", desc := "()Ljava/lang/Object;" } : Jvm.MethodName)), (Jvm.Cond.classLink "java/util/Arrays" (311 : Nat) "[B"), (Jvm.Cond.methodLink "java/util/Arrays" (304 : Nat) ({ cls := "java/lang/Math", name := "min", desc := "(II)I" } : Jvm.MethodName)), (Jvm.Cond.methodLink "java/util/Arrays" (150 : Nat) ({ cls := "java/lang/System", name := "arraycopy", desc := "(Ljava/lang/Object;ILjava/lang/Object;II)V" } : Jvm.MethodName)), (Jvm.Cond.methodLink "java/lang/AbstractStringBuilder" (83 : Nat) ({ cls := "java/lang/AbstractStringBuilder", name := "isLatin1", desc := "()Z" } : Jvm.MethodName)), (Jvm.Cond.methodLink "java/lang/AbstractStringBuilder" (226 : Nat) ({ cls := "java/lang/StringUTF16", name := "putCharsAt", desc := "([BICCCC)I" } : Jvm.MethodName)), (Jvm.Cond.methodLink "java/lang/StringUTF16" (96 : Nat) ({ cls := "java/lang/StringUTF16", name := "checkBoundsBeginEnd", desc := "(II[B)V" } : Jvm.MethodName)), (Jvm.Cond.methodLink "java/lang/StringUTF16" (48 : Nat) ({ cls := "java/lang/StringUTF16", name := "length", desc := "([B)I" } : Jvm.MethodName)), (Jvm.Cond.methodLink "java/lang/StringUTF16" (241 : Nat) ({ cls := "java/lang/String", name := "checkBoundsBeginEnd", desc := "(III)V" } : Jvm.MethodName)), (Jvm.Cond.methodLink "java/lang/String" (1062 : Nat) ({ cls := "jdk/internal/util/Preconditions", name := "checkFromToIndex", desc := "(IIILjava/util/function/BiFunction;)I" } : Jvm.MethodName)), (Jvm.Cond.methodLink "java/lang/StringUTF16" (111 : Nat) ({ cls := "java/lang/StringUTF16", name := "putChar", desc := "([BII)V" } : Jvm.MethodName)), (Jvm.Cond.methodLink "java/lang/AbstractStringBuilder" (32 : Nat) ({ cls := "java/lang/String", name := "length", desc := "()I" } : Jvm.MethodName)), (Jvm.Cond.methodLink "java/lang/String" (335 : Nat) ({ cls := "java/lang/String", name := "coder", desc := "()B" } : Jvm.MethodName)), (Jvm.Cond.fieldLink "java/lang/String" (38 : Nat) "java/lang/String" "COMPACT_STRINGS" "Z"), (Jvm.Cond.methodLink "java/lang/AbstractStringBuilder" (208 : Nat) ({ cls := "java/lang/AbstractStringBuilder", name := "putStringAt", desc := "(ILjava/lang/String;)V" } : Jvm.MethodName)), (Jvm.Cond.methodLink "java/lang/AbstractStringBuilder" (397 : Nat) ({ cls := "java/lang/AbstractStringBuilder", name := "inflateIfNeededFor", desc := "(Ljava/lang/String;)V" } : Jvm.MethodName)), (Jvm.Cond.methodLink "java/lang/AbstractStringBuilder" (40 : Nat) ({ cls := "java/lang/String", name := "coder", desc := "()B" } : Jvm.MethodName)), (Jvm.Cond.methodLink "java/lang/AbstractStringBuilder" (195 : Nat) ({ cls := "java/lang/AbstractStringBuilder", name := "inflate", desc := "()V" } : Jvm.MethodName)), (Jvm.Cond.methodLink "java/lang/AbstractStringBuilder" (125 : Nat) ({ cls := "java/lang/StringLatin1", name := "inflate", desc := "([BI[BII)V" } : Jvm.MethodName)), (Jvm.Cond.methodLink "java/lang/StringLatin1" (240 : Nat) ({ cls := "java/lang/StringUTF16", name := "inflate", desc := "([BI[BII)V" } : Jvm.MethodName)), (Jvm.Cond.methodLink "java/lang/StringUTF16" (173 : Nat) ({ cls := "java/lang/StringUTF16", name := "checkBoundsOffCount", desc := "(II[B)V" } : Jvm.MethodName)), (Jvm.Cond.methodLink "java/lang/StringUTF16" (419 : Nat) ({ cls := "java/lang/String", name := "checkBoundsOffCount", desc := "(III)I" } : Jvm.MethodName)), (Jvm.Cond.methodLink "java/lang/String" (1065 : Nat) ({ cls := "jdk/internal/util/Preconditions", name := "checkFromIndexSize", desc := "(IIILjava/util/function/BiFunction;)I" } : Jvm.MethodName)), (Jvm.Cond.methodLink "java/lang/AbstractStringBuilder" (399 : Nat) ({ cls := "java/lang/String", name := "getBytes", desc := "([BIB)V" } : Jvm.MethodName)), (Jvm.Cond.methodLink "java/lang/String" (212 : Nat) ({ cls := "java/lang/System", name := "arraycopy", desc := "(Ljava/lang/Object;ILjava/lang/Object;II)V" } : Jvm.MethodName)), (Jvm.Cond.methodLink "java/lang/String" (106 : Nat) ({ cls := "java/lang/StringLatin1", name := "inflate", desc := "([BI[BII)V" } : Jvm.MethodName)), (Jvm.Cond.methodLink "java/lang/StringIndexOutOfBoundsException" (19 : Nat) ({ cls := "java/lang/StringBuilder", name := "append", desc := "(I)Ljava/lang/StringBuilder;" } : Jvm.MethodName)), (Jvm.Cond.methodLink "java/lang/StringBuilder" (53 : Nat) ({ cls := "java/lang/AbstractStringBuilder", name := "append", desc := "(I)Ljava/lang/AbstractStringBuilder;" } : Jvm.MethodName)), (Jvm.Cond.methodLink "java/lang/AbstractStringBuilder" (245 : Nat) ({ cls := "java/lang/Integer", name := "stringSize", desc := "(I)I" } : Jvm.MethodName)), (Jvm.Cond.methodLink "java/lang/AbstractStringBuilder" (248 : Nat) ({ cls := "java/lang/Integer", name := "getChars", desc := "(II[B)I" } : Jvm.MethodName)), (Jvm.Cond.fieldLink "java/lang/Integer" (83 : Nat) "java/lang/Integer" "DigitOnes" "[B"), (Jvm.Cond.methodLink "java/lang/AbstractStringBuilder" (251 : Nat) ({ cls := "java/lang/StringUTF16", name := "getChars", desc := "(III[B)I" } : Jvm.MethodName)), (Jvm.Cond.methodLink "java/lang/StringUTF16" (393 : Nat) ({ cls := "java/lang/StringUTF16", name := "getChars", desc := "(II[B)I" } : Jvm.MethodName)), (Jvm.Cond.fieldLink "java/lang/StringUTF16" (403 : Nat) "java/lang/Integer" "DigitOnes" "[B"), (Jvm.Cond.methodLink "java/lang/StringIndexOutOfBoundsException" (22 : Nat) ({ cls := "java/lang/StringBuilder", name := "toString", desc := "()Ljava/lang/String;" } : Jvm.MethodName)), (Jvm.Cond.classLink "java/lang/StringBuilder" (18 : Nat) "java/lang/String"), (Jvm.Cond.instantiable "java/lang/String" (4 : Nat)), (Jvm.Cond.methodLink "java/lang/StringBuilder" (137 : Nat) ({ cls := "java/lang/String", name := "<init>", desc := "(Ljava/lang/StringBuilder;)V" } : Jvm.MethodName)), (Jvm.Cond.methodLink "java/lang/String" (489 : Nat) ({ cls := "java/lang/String", name := "<init>", desc := "(Ljava/lang/AbstractStringBuilder;Ljava/lang/Void;)V" } : Jvm.MethodName)), (Jvm.Cond.methodLink "java/lang/String" (1 : Nat) ({ cls := "java/lang/Object", name := "<init>", desc := "()V" } : Jvm.MethodName)), (Jvm.Cond.methodLink "java/lang/String" (552 : Nat) ({ cls := "java/lang/AbstractStringBuilder", name := "getValue", desc := "()[B" } : Jvm.MethodName)), (Jvm.Cond.methodLink "java/lang/String" (549 : Nat) ({ cls := "java/lang/AbstractStringBuilder", name := "length", desc := "()I" } : Jvm.MethodName)), (Jvm.Cond.methodLink "java/lang/StringBuilder" (343 : Nat) ({ cls := "java/lang/AbstractStringBuilder", name := "length", desc := "()I" } : Jvm.MethodName)), (Jvm.Cond.methodLink "java/lang/String" (1047 : Nat) ({ cls := "java/lang/AbstractStringBuilder", name := "isLatin1", desc := "()Z" } : Jvm.MethodName)), (Jvm.Cond.methodLink "java/lang/String" (54 : Nat) ({ cls := "java/util/Arrays", name := "copyOfRange", desc := "([BII)[B" } : Jvm.MethodName)), (Jvm.Cond.methodLink "java/util/Arrays" (339 : Nat) ({ cls := "java/util/Arrays", name := "copyOfRangeByte", desc := "([BII)[B" } : Jvm.MethodName)), (Jvm.Cond.methodLink "java/util/Arrays" (343 : Nat) ({ cls := "java/util/Arrays", name := "checkLength", desc := "(II)V" } : Jvm.MethodName)), (Jvm.Cond.classLink "java/util/Arrays" (43 : Nat) "java/lang/IllegalArgumentException"), (Jvm.Cond.classLink "java/util/Arrays" (45 : Nat) "java/lang/StringBuilder"), (Jvm.Cond.methodLink "java/util/Arrays" (47 : Nat) ({ cls := "java/lang/StringBuilder", name := "<init>", desc := "()V" } : Jvm.MethodName)), (Jvm.Cond.methodLink "java/util/Arrays" (54 : Nat) ({ cls := "java/lang/StringBuilder", name := "append", desc := "(I)Ljava/lang/StringBuilder;" } : Jvm.MethodName)), (Jvm.Cond.methodLink "java/util/Arrays" (50 : Nat) ({ cls := "java/lang/StringBuilder", name := "append", desc := "(Ljava/lang/String;)Ljava/lang/StringBuilder;" } : Jvm.MethodName)), (Jvm.Cond.methodLink "java/util/Arrays" (61 : Nat) ({ cls := "java/lang/StringBuilder", name := "toString", desc := "()Ljava/lang/String;" } : Jvm.MethodName)), (Jvm.Cond.methodLink "java/lang/String" (1051 : Nat) ({ cls := "java/lang/StringUTF16", name := "compress", desc := "([BII)[B" } : Jvm.MethodName)), (Jvm.Cond.methodLink "java/lang/StringUTF16" (123 : Nat) ({ cls := "java/lang/StringUTF16", name := "compress", desc := "([BI[BII)I" } : Jvm.MethodName)), (Jvm.Cond.methodLink "java/lang/StringUTF16" (71 : Nat) ({ cls := "java/lang/StringUTF16", name := "getChar", desc := "([BI)C" } : Jvm.MethodName)), (Jvm.Cond.methodLink "java/lang/StringUTF16" (126 : Nat) ({ cls := "java/util/Arrays", name := "copyOfRange", desc := "([BII)[B" } : Jvm.MethodName)), (Jvm.Cond.methodLink "java/lang/String" (47 : Nat) ({ cls := "java/lang/StringUTF16", name := "coderFromArrayLen", desc := "([BI)B" } : Jvm.MethodName)), (Jvm.Cond.fieldLink "java/lang/String" (9 : Nat) "java/lang/String" "value" "[B"), (Jvm.Cond.fieldLink "java/lang/String" (15 : Nat) "java/lang/String" "coder" "B"), (Jvm.Cond.methodLink "java/lang/AbstractStringBuilder" (133 : Nat) ({ cls := "java/lang/StringLatin1", name := "fillNull", desc := "([BII)V" } : Jvm.MethodName)), (Jvm.Cond.methodLink "java/lang/StringLatin1" (236 : Nat) ({ cls := "java/util/Arrays", name := "fill", desc := "([BIIB)V" } : Jvm.MethodName)), (Jvm.Cond.methodLink "java/util/Arrays" (13 : Nat) ({ cls := "java/util/Arrays", name := "rangeCheck", desc := "(III)V" } : Jvm.MethodName)), (Jvm.Cond.classLink "java/util/Arrays" (68 : Nat) "java/lang/ArrayIndexOutOfBoundsException"), (Jvm.Cond.instantiable "java/lang/ArrayIndexOutOfBoundsException" (6 : Nat)), (Jvm.Cond.methodLink "java/util/Arrays" (70 : Nat) ({ cls := "java/lang/ArrayIndexOutOfBoundsException", name := "<init>", desc := "(I)V" } : Jvm.MethodName)), (Jvm.Cond.classLink "java/lang/ArrayIndexOutOfBoundsException" (10 : Nat) "java/lang/StringBuilder"), (Jvm.Cond.methodLink "java/lang/ArrayIndexOutOfBoundsException" (12 : Nat) ({ cls := "java/lang/StringBuilder", name := "<init>", desc := "()V" } : Jvm.MethodName)), (Jvm.Cond.methodLink "java/lang/ArrayIndexOutOfBoundsException" (15 : Nat) ({ cls := "java/lang/StringBuilder", name := "append", desc := "(Ljava/lang/String;)Ljava/lang/StringBuilder;" } : Jvm.MethodName)), (Jvm.Cond.methodLink "java/lang/ArrayIndexOutOfBoundsException" (19 : Nat) ({ cls := "java/lang/StringBuilder", name := "append", desc := "(I)Ljava/lang/StringBuilder;" } : Jvm.MethodName)), (Jvm.Cond.methodLink "java/lang/ArrayIndexOutOfBoundsException" (22 : Nat) ({ cls := "java/lang/StringBuilder", name := "toString", desc := "()Ljava/lang/String;" } : Jvm.MethodName)), (Jvm.Cond.methodLink "java/lang/AbstractStringBuilder" (137 : Nat) ({ cls := "java/lang/StringUTF16", name := "fillNull", desc := "([BII)V" } : Jvm.MethodName)), (Jvm.Cond.methodLink "java/lang/StringUTF16" (380 : Nat) ({ cls := "java/util/Arrays", name := "fill", desc := "([BIIB)V" } : Jvm.MethodName)), (Jvm.Cond.methodLink "java/lang/StringBuilder" (50 : Nat) ({ cls := "java/lang/AbstractStringBuilder", name := "append", desc := "(C)Ljava/lang/AbstractStringBuilder;" } : Jvm.MethodName)), (Jvm.Cond.methodLink "java/lang/AbstractStringBuilder" (191 : Nat) ({ cls := "java/lang/StringLatin1", name := "canEncode", desc := "(C)Z" } : Jvm.MethodName)), (Jvm.Cond.methodLink "java/lang/AbstractStringBuilder" (197 : Nat) ({ cls := "java/lang/StringUTF16", name := "putCharSB", desc := "([BII)V" } : Jvm.MethodName)), (Jvm.Cond.methodLink "java/lang/StringUTF16" (67 : Nat) ({ cls := "java/lang/StringUTF16", name := "checkIndex", desc := "(I[B)V" } : Jvm.MethodName)), (Jvm.Cond.methodLink "java/lang/StringUTF16" (414 : Nat) ({ cls := "java/lang/String", name := "checkIndex", desc := "(II)V" } : Jvm.MethodName)), (Jvm.Cond.methodLink "java/lang/String" (1059 : Nat) ({ cls := "jdk/internal/util/Preconditions", name := "checkIndex", desc := "(IILjava/util/function/BiFunction;)I" } : Jvm.MethodName)), (Jvm.Cond.classLink "WavesaleLaw" (14 : Nat) "WavesaleLaw$Out"), (Jvm.Cond.classLink "WavesaleLaw" (19 : Nat) "java/lang/IllegalArgumentException"), (Jvm.Cond.classLink "WavesaleLaw" (21 : Nat) "java/lang/IllegalStateException"), (Jvm.Cond.classLink "Wavesale" (90 : Nat) "java/lang/IllegalArgumentException"), (Jvm.Cond.classLink "Wavesale" (72 : Nat) "java/lang/IllegalStateException"), (Jvm.Cond.classLink "WavesaleLaw" (27 : Nat) "java/lang/IndexOutOfBoundsException"), (Jvm.Cond.classLink "Wavesale" (268 : Nat) "java/lang/IndexOutOfBoundsException"), (Jvm.Cond.classLink "WavesaleLaw" (137 : Nat) "WavesaleModel"), (Jvm.Cond.classLink "WavesaleModel" (20 : Nat) "java/util/ArrayList"), (Jvm.Cond.methodLink "java/util/ArrayList" (1 : Nat) ({ cls := "java/util/AbstractList", name := "<init>", desc := "()V" } : Jvm.MethodName)), (Jvm.Cond.methodLink "java/util/AbstractList" (1 : Nat) ({ cls := "java/util/AbstractCollection", name := "<init>", desc := "()V" } : Jvm.MethodName)), (Jvm.Cond.methodLink "java/util/AbstractCollection" (1 : Nat) ({ cls := "java/lang/Object", name := "<init>", desc := "()V" } : Jvm.MethodName)), (Jvm.Cond.fieldLink "java/util/ArrayList" (39 : Nat) "java/util/ArrayList" "DEFAULTCAPACITY_EMPTY_ELEMENTDATA" "[Ljava/lang/Object;"), (Jvm.Cond.fieldLink "java/util/ArrayList" (9 : Nat) "java/util/ArrayList" "elementData" "[Ljava/lang/Object;"), (Jvm.Cond.fieldLink "java/util/ArrayList$Itr" (37 : Nat) "java/util/ArrayList" "elementData" "[Ljava/lang/Object;"), (Jvm.Cond.fieldLink "java/util/ArrayList" (48 : Nat) "java/util/ArrayList" "size" "I"), (Jvm.Cond.fieldLink "java/util/AbstractList" (7 : Nat) "java/util/AbstractList" "modCount" "I"), (Jvm.Cond.fieldLink "java/util/ArrayList$Itr" (17 : Nat) "java/util/ArrayList" "modCount" "I"), (Jvm.Cond.sameField "java/util/ArrayList" "java/util/AbstractList" "modCount" "I"), (Jvm.Cond.fieldLink "java/util/ArrayList" (63 : Nat) "java/util/ArrayList" "modCount" "I"), (Jvm.Cond.classLink "WavesaleModel" (65 : Nat) "WavesaleModel$Region"), (Jvm.Cond.methodLink "java/util/ArrayList" (131 : Nat) ({ cls := "java/util/ArrayList", name := "add", desc := "(Ljava/lang/Object;[Ljava/lang/Object;I)V" } : Jvm.MethodName)), (Jvm.Cond.methodLink "java/util/ArrayList" (129 : Nat) ({ cls := "java/util/ArrayList", name := "grow", desc := "()[Ljava/lang/Object;" } : Jvm.MethodName)), (Jvm.Cond.methodLink "java/util/ArrayList" (69 : Nat) ({ cls := "java/util/ArrayList", name := "grow", desc := "(I)[Ljava/lang/Object;" } : Jvm.MethodName)), (Jvm.Cond.methodLink "java/util/ArrayList" (73 : Nat) ({ cls := "jdk/internal/util/ArraysSupport", name := "newLength", desc := "(III)I" } : Jvm.MethodName)), (Jvm.Cond.methodLink "java/util/ArrayList" (66 : Nat) ({ cls := "java/util/Arrays", name := "copyOf", desc := "([Ljava/lang/Object;I)[Ljava/lang/Object;" } : Jvm.MethodName)), (Jvm.Cond.methodLink "java/util/Arrays" (86 : Nat) ({ cls := "java/lang/Object", name := "getClass", desc := "()Ljava/lang/Class;" } : Jvm.MethodName)), (Jvm.Cond.instanceMethod ({ cls := "java/lang/Object", name := "getClass", desc := "()Ljava/lang/Class;" } : Jvm.MethodName)), (Jvm.Cond.native ({ cls := "java/lang/Object", name := "getClass", desc := "()Ljava/lang/Class;" } : Jvm.MethodName)), (Jvm.Cond.methodLink "java/util/Arrays" (300 : Nat) ({ cls := "java/util/Arrays", name := "copyOf", desc := "([Ljava/lang/Object;ILjava/lang/Class;)[Ljava/lang/Object;" } : Jvm.MethodName)), (Jvm.Cond.classLink "java/util/Arrays" (110 : Nat) "[Ljava/lang/Object;"), (Jvm.Cond.classLink "java/util/Arrays" (2 : Nat) "java/lang/Object"), (Jvm.Cond.methodLink "java/util/ArrayList" (79 : Nat) ({ cls := "java/lang/Math", name := "max", desc := "(II)I" } : Jvm.MethodName)), (Jvm.Cond.classLink "java/util/ArrayList" (7 : Nat) "java/lang/Object"), (Jvm.Cond.methodLink "java/util/ArrayList" (118 : Nat) ({ cls := "java/util/Objects", name := "checkIndex", desc := "(II)I" } : Jvm.MethodName)), (Jvm.Cond.methodLink "java/util/Objects" (105 : Nat) ({ cls := "jdk/internal/util/Preconditions", name := "checkIndex", desc := "(IILjava/util/function/BiFunction;)I" } : Jvm.MethodName)), (Jvm.Cond.methodLink "java/util/ArrayList" (123 : Nat) ({ cls := "java/util/ArrayList", name := "elementData", desc := "(I)Ljava/lang/Object;" } : Jvm.MethodName)), (Jvm.Cond.classLink "java/util/ArrayList" (267 : Nat) "java/util/ArrayList$Itr"), (Jvm.Cond.instantiable "java/util/ArrayList$Itr" (4 : Nat)), (Jvm.Cond.methodLink "java/util/ArrayList" (269 : Nat) ({ cls := "java/util/ArrayList$Itr", name := "<init>", desc := "(Ljava/util/ArrayList;)V" } : Jvm.MethodName)), (Jvm.Cond.methodLink "java/util/ArrayList$Itr" (7 : Nat) ({ cls := "java/lang/Object", name := "<init>", desc := "()V" } : Jvm.MethodName)), (Jvm.Cond.fieldLink "java/util/ArrayList$Itr" (25 : Nat) "java/util/ArrayList$Itr" "cursor" "I"), (Jvm.Cond.fieldLink "java/util/ArrayList$Itr" (13 : Nat) "java/util/ArrayList$Itr" "lastRet" "I"), (Jvm.Cond.fieldLink "java/util/ArrayList$Itr" (22 : Nat) "java/util/ArrayList$Itr" "expectedModCount" "I"), (Jvm.Cond.fieldLink "java/util/ArrayList$Itr" (1 : Nat) "java/util/ArrayList$Itr" "this$0" "Ljava/util/ArrayList;"), (Jvm.Cond.methodLink "java/util/ArrayList$Itr" (31 : Nat) ({ cls := "java/util/ArrayList$Itr", name := "checkForComodification", desc := "()V" } : Jvm.MethodName)), (Jvm.Cond.classLink "WavesaleModel" (118 : Nat) "WavesaleModel$Bidder"), (Jvm.Cond.classLink "WavesaleModel$Bidder" (7 : Nat) "java/util/ArrayList"), (Jvm.Cond.classLink "WavesaleModel" (136 : Nat) "WavesaleModel$Clock"), (Jvm.Cond.classLink "WavesaleModel$Clock" (20 : Nat) "java/util/ArrayList"), (Jvm.Cond.classLink "WavesaleModel$Clock" (63 : Nat) "WavesaleModel$Region"), (Jvm.Cond.classLink "WavesaleModel$Clock" (72 : Nat) "WavesaleModel$Bidder"), (Jvm.Cond.classLink "WavesaleModel" (172 : Nat) "WavesaleModel$Round"), (Jvm.Cond.methodLink "WavesaleModel" (179 : Nat) ({ cls := "[I", name := "clone", desc := "()Ljava/lang/Object;" } : Jvm.MethodName)), (Jvm.Cond.sameMethod "[I" "java/lang/Object" "clone" "()Ljava/lang/Object;"), (Jvm.Cond.selects "[I" ({ cls := "[I", name := "clone", desc := "()Ljava/lang/Object;" } : Jvm.MethodName) ({ cls := "java/lang/Object", name := "clone", desc := "()Ljava/lang/Object;" } : Jvm.MethodName)), (Jvm.Cond.classLink "WavesaleModel" (180 : Nat) "[I"), (Jvm.Cond.methodLink "WavesaleModel" (185 : Nat) ({ cls := "[Z", name := "clone", desc := "()Ljava/lang/Object;" } : Jvm.MethodName)), (Jvm.Cond.sameMethod "[Z" "java/lang/Object" "clone" "()Ljava/lang/Object;"), (Jvm.Cond.selects "[Z" ({ cls := "[Z", name := "clone", desc := "()Ljava/lang/Object;" } : Jvm.MethodName) ({ cls := "java/lang/Object", name := "clone", desc := "()Ljava/lang/Object;" } : Jvm.MethodName)), (Jvm.Cond.classLink "WavesaleModel" (186 : Nat) "[Z"), (Jvm.Cond.classLink "WavesaleModel$Clock" (80 : Nat) "[I"), (Jvm.Cond.methodLink "WavesaleModel$Clock" (92 : Nat) ({ cls := "[I", name := "clone", desc := "()Ljava/lang/Object;" } : Jvm.MethodName)), (Jvm.Cond.fieldLink "java/lang/Integer" (191 : Nat) "java/lang/Integer$IntegerCache" "high" "I"), (Jvm.Cond.fieldLink "java/lang/Integer" (195 : Nat) "java/lang/Integer$IntegerCache" "cache" "[Ljava/lang/Integer;"), (Jvm.Cond.classLink "java/lang/Integer" (1 : Nat) "java/lang/Integer"), (Jvm.Cond.instantiable "java/lang/Integer" (1 : Nat)), (Jvm.Cond.methodLink "java/lang/Integer" (199 : Nat) ({ cls := "java/lang/Integer", name := "<init>", desc := "(I)V" } : Jvm.MethodName)), (Jvm.Cond.methodLink "java/lang/Integer" (202 : Nat) ({ cls := "java/lang/Number", name := "<init>", desc := "()V" } : Jvm.MethodName)), (Jvm.Cond.methodLink "java/lang/Number" (1 : Nat) ({ cls := "java/lang/Object", name := "<init>", desc := "()V" } : Jvm.MethodName)), (Jvm.Cond.fieldLink "java/lang/Integer" (205 : Nat) "java/lang/Integer" "value" "I"), (Jvm.Cond.classLink "WavesaleModel" (218 : Nat) "WavesaleModel$Choice"), (Jvm.Cond.classLink "WavesaleModel$Choice" (49 : Nat) "WavesaleModel$Region"), (Jvm.Cond.classLink "WavesaleModel$Choice" (76 : Nat) "WavesaleModel$Bidder"), (Jvm.Cond.classLink "WavesaleModel$Bidder" (24 : Nat) "java/lang/Integer"), (Jvm.Cond.classLink "WavesaleModel" (113 : Nat) "java/lang/Integer"), (Jvm.Cond.classLink "WavesaleModel" (332 : Nat) "java/lang/StringBuilder"), (Jvm.Cond.classLink "java/lang/String" (10 : Nat) "java/lang/String"), (Jvm.Cond.methodLink "java/lang/String" (541 : Nat) ({ cls := "java/lang/StringLatin1", name := "equals", desc := "([B[B)Z" } : Jvm.MethodName)), (Jvm.Cond.selects "[Ljava/lang/Object;" ({ cls := "java/lang/Object", name := "getClass", desc := "()Ljava/lang/Class;" } : Jvm.MethodName) ({ cls := "java/lang/Object", name := "getClass", desc := "()Ljava/lang/Class;" } : Jvm.MethodName))]
set_option maxRecDepth 100000 in
theorem gv_J : ∀ w ∈ gwl_J2, w ∈ xx_gws := xx_inT [113, 2, 7, 0, 2, 0, 0, 7, 70, 5, 51, 5, 44, 5, 5, 5, 10, 215, 0, 3, 2, 0, 1, 2, 2, 0, 0, 0, 0, 0, 27, 2, 0, 0, 2, 0, 1, 3, 2, 3, 3, 3, 2, 0, 0, 2, 0, 2, 0, 0, 0, 0, 1, 0, 0, 0, 4, 2, 2, 2, 4, 2, 8, 3, 3, 0, 3, 3, 0, 3, 2, 2, 2, 2, 2, 3, 0, 0, 3, 2, 2, 2, 3, 2, 2, 1, 3, 0, 0, 2, 2, 0, 4, 5, 1, 0, 2, 2, 2, 42, 0, 0, 1, 0, 25, 2, 2, 2, 0, 2, 0, 20, 2, 2, 5, 0, 9, 2, 0, 1, 0, 0, 3, 2, 8, 2, 2, 2, 2, 2, 47, 15, 0, 7, 6, 24, 8, 437, 5, 4, 2, 2, 0, 1, 0, 1, 0, 0, 0, 0, 85, 25, 3, 3, 3, 0, 2, 0, 25, 0, 2, 1, 0, 0, 12, 2, 0, 7, 0, 0, 2, 0, 0, 0, 0, 28, 9, 5, 40, 9, 2, 0, 80, 21, 0, 0, 1, 0, 0, 0, 1, 8, 2, 15, 1, 1, 0, 0, 2, 2, 0, 21, 7, 6, 6, 94, 128, 100, 0, 42] rfl (by decide +kernel)
theorem cw_L_8 : Cond.classLink RL 8 "Wavesale" ∈ xx_gws := (gv_J _ (List.mem_of_getElem? (i := 6) rfl))
theorem cw_X7_9 : Cond.classLink RX7 9 "Wavesale$Terms" ∈ xx_gws := (gv_J _ (List.mem_of_getElem? (i := 7) rfl))
theorem cw_X7_16 : Cond.classLink RX7 16 "Wavesale$Clock" ∈ xx_gws := (gv_J _ (List.mem_of_getElem? (i := 8) rfl))
theorem cw_X1_30 : Cond.classLink RX1 30 "[[I" ∈ xx_gws := (gv_J _ (List.mem_of_getElem? (i := 9) rfl))
theorem cw_X7_26 : Cond.classLink RX7 26 "Wavesale$Market" ∈ xx_gws := (gv_J _ (List.mem_of_getElem? (i := 10) rfl))
theorem cw_X2_15 : Cond.classLink RX2 15 "[[I" ∈ xx_gws := (gv_J _ (List.mem_of_getElem? (i := 11) rfl))
theorem cw_X7_33 : Cond.classLink RX7 33 "Wavesale$Payments" ∈ xx_gws := (gv_J _ (List.mem_of_getElem? (i := 12) rfl))
theorem cw_X4_9 : Cond.classLink RX4 9 "[[I" ∈ xx_gws := (gv_J _ (List.mem_of_getElem? (i := 13) rfl))
theorem cw_X7_40 : Cond.classLink RX7 40 "Wavesale$Names" ∈ xx_gws := (gv_J _ (List.mem_of_getElem? (i := 14) rfl))
theorem cw_X3_9 : Cond.classLink RX3 9 "[[I" ∈ xx_gws := (gv_J _ (List.mem_of_getElem? (i := 15) rfl))
theorem cw_X7_47 : Cond.classLink RX7 47 "Wavesale$Stations" ∈ xx_gws := (gv_J _ (List.mem_of_getElem? (i := 16) rfl))
theorem cw_X7_293 : Cond.classLink RX7 293 "java/lang/StringBuilder" ∈ xx_gws := (gv_J _ (List.mem_of_getElem? (i := 17) rfl))
theorem ml_J4_1 : xx_ml RJ4 1 yJ5_init_d00df := Or.inl (gv_J _ (List.mem_of_getElem? (i := 19) rfl))
theorem oi_J5_3 : Cond.methodLink RJ5 3 Lib.objectInit ∈ xx_gws ∧ Cond.instanceMethod Lib.objectInit ∈ xx_gws ∧ Cond.code Lib.objectInit ⟨#[0xb1]⟩ 1 none ∈ xx_gws := ⟨(gv_J _ (List.mem_of_getElem? (i := 20) rfl)), oi_2, oi_3⟩
theorem gs_J5_18 : Cond.fieldLink RJ5 18 "java/lang/String" "COMPACT_STRINGS" "Z" ∈ xx_gws := (gv_J _ (List.mem_of_getElem? (i := 21) rfl))
theorem ml_J5_26 : xx_ml RJ5 26 yJ2_newBytesFor_77867 := Or.inl (gv_J _ (List.mem_of_getElem? (i := 22) rfl))
theorem ml_J2_11 : xx_ml RJ2 11 yJ2_newBytesLength_0f7a4 := Or.inl (gv_J _ (List.mem_of_getElem? (i := 23) rfl))
theorem ml_J4_333 : xx_ml RJ4 333 yJ5_setLength_d00df := Or.inl (gv_J _ (List.mem_of_getElem? (i := 30) rfl))
theorem cw_J5_129 : Cond.classLink RJ5 129 "java/lang/StringIndexOutOfBoundsException" ∈ xx_gws := (gv_J _ (List.mem_of_getElem? (i := 31) rfl))
theorem nw_J5_129 : Cond.classLink RJ5 129 RJx7c733 ∈ xx_gws ∧ Cond.instantiable RJx7c733 6 ∈ xx_gws ∧ Cond.initialized RJx7c733 ∈ xx_gws := ⟨(gv_J _ (List.mem_of_getElem? (i := 31) rfl)), (gv_J _ (List.mem_of_getElem? (i := 32) rfl)), (gv_J _ (List.mem_of_getElem? (i := 4) rfl))⟩
theorem ml_J5_131 : xx_ml RJ5 131 yJx7c733_init_d00df := Or.inl (gv_J _ (List.mem_of_getElem? (i := 33) rfl))
theorem cw_Jx7c733_10 : Cond.classLink RJx7c733 10 "java/lang/StringBuilder" ∈ xx_gws := (gv_J _ (List.mem_of_getElem? (i := 34) rfl))
theorem nw_Jx7c733_10 : Cond.classLink RJx7c733 10 RJ4 ∈ xx_gws ∧ Cond.instantiable RJ4 4 ∈ xx_gws ∧ Cond.initialized RJ4 ∈ xx_gws := ⟨(gv_J _ (List.mem_of_getElem? (i := 34) rfl)), (gv_J _ (List.mem_of_getElem? (i := 18) rfl)), (gv_J _ (List.mem_of_getElem? (i := 2) rfl))⟩
theorem ml_Jx7c733_12 : xx_ml RJx7c733 12 yJ4_init_da8c8 := Or.inl (gv_J _ (List.mem_of_getElem? (i := 35) rfl))
theorem ml_Jx7c733_15 : xx_ml RJx7c733 15 yJ4_append_15ec4 := Or.inl (gv_J _ (List.mem_of_getElem? (i := 36) rfl))
theorem ml_J4_29 : xx_ml RJ4 29 yJ5_append_cf1ce := Or.inl (gv_J _ (List.mem_of_getElem? (i := 37) rfl))
theorem ml_J5_204 : xx_ml RJ5 204 yJ5_appendNull_278bc := Or.inl (gv_J _ (List.mem_of_getElem? (i := 38) rfl))
theorem ml_J5_100 : xx_ml RJ5 100 yJ5_ensureCapacityInternal_d00df := Or.inl (gv_J _ (List.mem_of_getElem? (i := 39) rfl))
theorem ml_J5_104 : xx_ml RJ5 104 yJ5_newCapacity_0f7a4 := Or.inl (gv_J _ (List.mem_of_getElem? (i := 40) rfl))
theorem ml_J5_114 : xx_ml RJ5 114 yJ8_newLength_cabcc := Or.inl (gv_J _ (List.mem_of_getElem? (i := 41) rfl))
theorem ml_J8_194 : xx_ml RJ8 194 yJ9_max_7cf53 := Or.inl (gv_J _ (List.mem_of_getElem? (i := 42) rfl))
theorem mm_J8_194 : xx_mmax RJ8 194 := ⟨(gv_J _ (List.mem_of_getElem? (i := 42) rfl)), st_J9_max_7cf53, ce_J9_max_7cf53.2.1, ce_J9_max_7cf53.1⟩
theorem ml_J8_201 : xx_ml RJ8 201 yJ8_hugeLength_7cf53 := Or.inl (gv_J _ (List.mem_of_getElem? (i := 44) rfl))
theorem ml_J5_108 : xx_ml RJ5 108 yJ7_copyOf_9075b := Or.inl (gv_J _ (List.mem_of_getElem? (i := 46) rfl))
theorem cn_J7_310 : Cond.methodLink RJ7 310 ⟨"[B", "clone", "()Ljava/lang/Object;"⟩ ∈ xx_gws := (gv_J _ (List.mem_of_getElem? (i := 47) rfl))
theorem cw_J7_311 : Cond.classLink RJ7 311 "[B" ∈ xx_gws := (gv_J _ (List.mem_of_getElem? (i := 52) rfl))
theorem ml_J7_304 : xx_ml RJ7 304 yJ9_min_7cf53 := Or.inl (gv_J _ (List.mem_of_getElem? (i := 53) rfl))
theorem mm_J7_304 : xx_mmin RJ7 304 := ⟨(gv_J _ (List.mem_of_getElem? (i := 53) rfl)), st_J9_min_7cf53, ce_J9_min_7cf53.2.1, ce_J9_min_7cf53.1⟩
theorem ay_J7_150 : xx_ac RJ7 150 := ⟨(gv_J _ (List.mem_of_getElem? (i := 54) rfl)), ac_nat, ac_sta, ac_ini⟩
theorem ml_J5_83 : xx_ml RJ5 83 yJ5_isLatin1_aae02 := Or.inl (gv_J _ (List.mem_of_getElem? (i := 55) rfl))
theorem ml_J5_226 : xx_ml RJ5 226 yJ2_putCharsAt_cd4e5 := Or.inl (gv_J _ (List.mem_of_getElem? (i := 56) rfl))
theorem ml_J2_96 : xx_ml RJ2 96 yJ2_checkBoundsBeginEnd_d044e := Or.inl (gv_J _ (List.mem_of_getElem? (i := 57) rfl))
theorem ml_J2_48 : xx_ml RJ2 48 yJ2_length_9d52b := Or.inl (gv_J _ (List.mem_of_getElem? (i := 58) rfl))
theorem ml_J2_241 : xx_ml RJ2 241 yJ0_checkBoundsBeginEnd_23922 := Or.inl (gv_J _ (List.mem_of_getElem? (i := 59) rfl))
theorem ml_J0_1062 : xx_ml RJ0 1062 yJ3_checkFromToIndex_8c36e := Or.inl (gv_J _ (List.mem_of_getElem? (i := 60) rfl))
theorem ml_J2_111 : xx_ml RJ2 111 yJ2_putChar_b72d1 := Or.inl (gv_J _ (List.mem_of_getElem? (i := 61) rfl))
theorem ml_J5_32 : xx_ml RJ5 32 yJ0_length_8abf5 := Or.inl (gv_J _ (List.mem_of_getElem? (i := 62) rfl))
theorem ml_J0_335 : xx_ml RJ0 335 yJ0_coder_7d493 := Or.inl (gv_J _ (List.mem_of_getElem? (i := 63) rfl))
theorem gs_J0_38 : Cond.fieldLink RJ0 38 "java/lang/String" "COMPACT_STRINGS" "Z" ∈ xx_gws := (gv_J _ (List.mem_of_getElem? (i := 64) rfl))
theorem ml_J5_208 : xx_ml RJ5 208 yJ5_putStringAt_47b60 := Or.inl (gv_J _ (List.mem_of_getElem? (i := 65) rfl))
theorem ml_J5_397 : xx_ml RJ5 397 yJ5_inflateIfNeededFor_a7421 := Or.inl (gv_J _ (List.mem_of_getElem? (i := 66) rfl))
theorem ml_J5_40 : xx_ml RJ5 40 yJ0_coder_7d493 := Or.inl (gv_J _ (List.mem_of_getElem? (i := 67) rfl))
theorem ml_J5_195 : xx_ml RJ5 195 yJ5_inflate_da8c8 := Or.inl (gv_J _ (List.mem_of_getElem? (i := 68) rfl))
theorem ml_J5_125 : xx_ml RJ5 125 yJ1_inflate_0e8fd := Or.inl (gv_J _ (List.mem_of_getElem? (i := 69) rfl))
theorem ml_J1_240 : xx_ml RJ1 240 yJ2_inflate_0e8fd := Or.inl (gv_J _ (List.mem_of_getElem? (i := 70) rfl))
theorem ml_J2_173 : xx_ml RJ2 173 yJ2_checkBoundsOffCount_d044e := Or.inl (gv_J _ (List.mem_of_getElem? (i := 71) rfl))
theorem ml_J2_419 : xx_ml RJ2 419 yJ0_checkBoundsOffCount_cabcc := Or.inl (gv_J _ (List.mem_of_getElem? (i := 72) rfl))
theorem ml_J0_1065 : xx_ml RJ0 1065 yJ3_checkFromIndexSize_8c36e := Or.inl (gv_J _ (List.mem_of_getElem? (i := 73) rfl))
theorem ml_J5_399 : xx_ml RJ5 399 yJ0_getBytes_840e7 := Or.inl (gv_J _ (List.mem_of_getElem? (i := 74) rfl))
theorem ay_J0_212 : xx_ac RJ0 212 := ⟨(gv_J _ (List.mem_of_getElem? (i := 75) rfl)), ac_nat, ac_sta, ac_ini⟩
theorem ml_J0_106 : xx_ml RJ0 106 yJ1_inflate_0e8fd := Or.inl (gv_J _ (List.mem_of_getElem? (i := 76) rfl))
theorem ml_Jx7c733_19 : xx_ml RJx7c733 19 yJ4_append_bf812 := Or.inl (gv_J _ (List.mem_of_getElem? (i := 77) rfl))
theorem ml_J4_53 : xx_ml RJ4 53 yJ5_append_c97b9 := Or.inl (gv_J _ (List.mem_of_getElem? (i := 78) rfl))
theorem ml_J5_245 : xx_ml RJ5 245 yJ6_stringSize_0f7a4 := Or.inl (gv_J _ (List.mem_of_getElem? (i := 79) rfl))
theorem ml_J5_248 : xx_ml RJ5 248 yJ6_getChars_ba4f3 := Or.inl (gv_J _ (List.mem_of_getElem? (i := 80) rfl))
theorem gs_J6_83 : Cond.fieldLink RJ6 83 "java/lang/Integer" "DigitOnes" "[B" ∈ xx_gws := (gv_J _ (List.mem_of_getElem? (i := 81) rfl))
theorem ml_J5_251 : xx_ml RJ5 251 yJ2_getChars_46870 := Or.inl (gv_J _ (List.mem_of_getElem? (i := 82) rfl))
theorem ml_J2_393 : xx_ml RJ2 393 yJ2_getChars_ba4f3 := Or.inl (gv_J _ (List.mem_of_getElem? (i := 83) rfl))
theorem gs_J2_403 : Cond.fieldLink RJ2 403 "java/lang/Integer" "DigitOnes" "[B" ∈ xx_gws := (gv_J _ (List.mem_of_getElem? (i := 84) rfl))
theorem ml_Jx7c733_22 : xx_ml RJx7c733 22 yJ4_toString_0e30d := Or.inl (gv_J _ (List.mem_of_getElem? (i := 85) rfl))
theorem cw_J4_18 : Cond.classLink RJ4 18 "java/lang/String" ∈ xx_gws := (gv_J _ (List.mem_of_getElem? (i := 86) rfl))
theorem nw_J4_18 : Cond.classLink RJ4 18 RJ0 ∈ xx_gws ∧ Cond.instantiable RJ0 4 ∈ xx_gws ∧ Cond.initialized RJ0 ∈ xx_gws := ⟨(gv_J _ (List.mem_of_getElem? (i := 86) rfl)), (gv_J _ (List.mem_of_getElem? (i := 87) rfl)), (gv_J _ (List.mem_of_getElem? (i := 3) rfl))⟩
theorem ml_J4_137 : xx_ml RJ4 137 yJ0_init_81219 := Or.inl (gv_J _ (List.mem_of_getElem? (i := 88) rfl))
theorem ml_J0_489 : xx_ml RJ0 489 yJ0_init_db425 := Or.inl (gv_J _ (List.mem_of_getElem? (i := 89) rfl))
theorem oi_J0_1 : Cond.methodLink RJ0 1 Lib.objectInit ∈ xx_gws ∧ Cond.instanceMethod Lib.objectInit ∈ xx_gws ∧ Cond.code Lib.objectInit ⟨#[0xb1]⟩ 1 none ∈ xx_gws := ⟨(gv_J _ (List.mem_of_getElem? (i := 90) rfl)), oi_2, oi_3⟩
theorem ml_J0_552 : xx_ml RJ0 552 yJ5_getValue_6d5f1 := Or.inl (gv_J _ (List.mem_of_getElem? (i := 91) rfl))
theorem ml_J0_549 : xx_ml RJ0 549 yJ5_length_8abf5 := Or.inl (gv_J _ (List.mem_of_getElem? (i := 92) rfl))
theorem ml_J4_343 : xx_ml RJ4 343 yJ5_length_8abf5 := Or.inl (gv_J _ (List.mem_of_getElem? (i := 93) rfl))
theorem ml_J0_1047 : xx_ml RJ0 1047 yJ5_isLatin1_aae02 := Or.inl (gv_J _ (List.mem_of_getElem? (i := 94) rfl))
theorem ml_J0_54 : xx_ml RJ0 54 yJ7_copyOfRange_39247 := Or.inl (gv_J _ (List.mem_of_getElem? (i := 95) rfl))
theorem ml_J7_339 : xx_ml RJ7 339 yJ7_copyOfRangeByte_39247 := Or.inl (gv_J _ (List.mem_of_getElem? (i := 96) rfl))
theorem ml_J7_343 : xx_ml RJ7 343 yJ7_checkLength_df160 := Or.inl (gv_J _ (List.mem_of_getElem? (i := 97) rfl))
theorem cw_J7_43 : Cond.classLink RJ7 43 "java/lang/IllegalArgumentException" ∈ xx_gws := (gv_J _ (List.mem_of_getElem? (i := 98) rfl))
theorem cw_J7_45 : Cond.classLink RJ7 45 "java/lang/StringBuilder" ∈ xx_gws := (gv_J _ (List.mem_of_getElem? (i := 99) rfl))
theorem nw_J7_45 : Cond.classLink RJ7 45 RJ4 ∈ xx_gws ∧ Cond.instantiable RJ4 4 ∈ xx_gws ∧ Cond.initialized RJ4 ∈ xx_gws := ⟨(gv_J _ (List.mem_of_getElem? (i := 99) rfl)), (gv_J _ (List.mem_of_getElem? (i := 18) rfl)), (gv_J _ (List.mem_of_getElem? (i := 2) rfl))⟩
theorem ml_J7_47 : xx_ml RJ7 47 yJ4_init_da8c8 := Or.inl (gv_J _ (List.mem_of_getElem? (i := 100) rfl))
theorem ml_J7_54 : xx_ml RJ7 54 yJ4_append_bf812 := Or.inl (gv_J _ (List.mem_of_getElem? (i := 101) rfl))
theorem ml_J7_50 : xx_ml RJ7 50 yJ4_append_15ec4 := Or.inl (gv_J _ (List.mem_of_getElem? (i := 102) rfl))
theorem ml_J7_61 : xx_ml RJ7 61 yJ4_toString_0e30d := Or.inl (gv_J _ (List.mem_of_getElem? (i := 103) rfl))
theorem ml_J0_1051 : xx_ml RJ0 1051 yJ2_compress_39247 := Or.inl (gv_J _ (List.mem_of_getElem? (i := 104) rfl))
theorem ml_J2_123 : xx_ml RJ2 123 yJ2_compress_5af95 := Or.inl (gv_J _ (List.mem_of_getElem? (i := 105) rfl))
theorem ml_J2_71 : xx_ml RJ2 71 yJ2_getChar_3b067 := Or.inl (gv_J _ (List.mem_of_getElem? (i := 106) rfl))
theorem ml_J2_126 : xx_ml RJ2 126 yJ7_copyOfRange_39247 := Or.inl (gv_J _ (List.mem_of_getElem? (i := 107) rfl))
theorem ml_J0_47 : xx_ml RJ0 47 yJ2_coderFromArrayLen_85cad := Or.inl (gv_J _ (List.mem_of_getElem? (i := 108) rfl))
theorem fl_J0_9 : xx_fl RJ0 9 RJ0 TJ0 0 := ⟨Or.inl (gv_J _ (List.mem_of_getElem? (i := 109) rfl)), rfl⟩
theorem fz_J0_9 : Cond.fieldLink RJ0 9 RJ0 (TJ0 0).2.1 (TJ0 0).2.2.1 ∈ xx_gws ∧ (TJ0 0).1 = RJ0 ∧ RJ0 = RJ0 := ⟨(gv_J _ (List.mem_of_getElem? (i := 109) rfl)), rfl, rfl⟩
theorem fl_J0_15 : xx_fl RJ0 15 RJ0 TJ0 1 := ⟨Or.inl (gv_J _ (List.mem_of_getElem? (i := 110) rfl)), rfl⟩
theorem fz_J0_15 : Cond.fieldLink RJ0 15 RJ0 (TJ0 1).2.1 (TJ0 1).2.2.1 ∈ xx_gws ∧ (TJ0 1).1 = RJ0 ∧ RJ0 = RJ0 := ⟨(gv_J _ (List.mem_of_getElem? (i := 110) rfl)), rfl, rfl⟩
theorem ml_J5_133 : xx_ml RJ5 133 yJ1_fillNull_b72d1 := Or.inl (gv_J _ (List.mem_of_getElem? (i := 111) rfl))
theorem ml_J1_236 : xx_ml RJ1 236 yJ7_fill_eb02e := Or.inl (gv_J _ (List.mem_of_getElem? (i := 112) rfl))
theorem ml_J7_13 : xx_ml RJ7 13 yJ7_rangeCheck_23922 := Or.inl (gv_J _ (List.mem_of_getElem? (i := 113) rfl))
theorem cw_J7_68 : Cond.classLink RJ7 68 "java/lang/ArrayIndexOutOfBoundsException" ∈ xx_gws := (gv_J _ (List.mem_of_getElem? (i := 114) rfl))
theorem nw_J7_68 : Cond.classLink RJ7 68 RJx00060 ∈ xx_gws ∧ Cond.instantiable RJx00060 6 ∈ xx_gws ∧ Cond.initialized RJx00060 ∈ xx_gws := ⟨(gv_J _ (List.mem_of_getElem? (i := 114) rfl)), (gv_J _ (List.mem_of_getElem? (i := 115) rfl)), (gv_J _ (List.mem_of_getElem? (i := 5) rfl))⟩
theorem ml_J7_70 : xx_ml RJ7 70 yJx00060_init_d00df := Or.inl (gv_J _ (List.mem_of_getElem? (i := 116) rfl))
theorem cw_Jx00060_10 : Cond.classLink RJx00060 10 "java/lang/StringBuilder" ∈ xx_gws := (gv_J _ (List.mem_of_getElem? (i := 117) rfl))
theorem nw_Jx00060_10 : Cond.classLink RJx00060 10 RJ4 ∈ xx_gws ∧ Cond.instantiable RJ4 4 ∈ xx_gws ∧ Cond.initialized RJ4 ∈ xx_gws := ⟨(gv_J _ (List.mem_of_getElem? (i := 117) rfl)), (gv_J _ (List.mem_of_getElem? (i := 18) rfl)), (gv_J _ (List.mem_of_getElem? (i := 2) rfl))⟩
theorem ml_Jx00060_12 : xx_ml RJx00060 12 yJ4_init_da8c8 := Or.inl (gv_J _ (List.mem_of_getElem? (i := 118) rfl))
theorem ml_Jx00060_15 : xx_ml RJx00060 15 yJ4_append_15ec4 := Or.inl (gv_J _ (List.mem_of_getElem? (i := 119) rfl))
theorem ml_Jx00060_19 : xx_ml RJx00060 19 yJ4_append_bf812 := Or.inl (gv_J _ (List.mem_of_getElem? (i := 120) rfl))
theorem ml_Jx00060_22 : xx_ml RJx00060 22 yJ4_toString_0e30d := Or.inl (gv_J _ (List.mem_of_getElem? (i := 121) rfl))
theorem ml_J5_137 : xx_ml RJ5 137 yJ2_fillNull_b72d1 := Or.inl (gv_J _ (List.mem_of_getElem? (i := 122) rfl))
theorem ml_J2_380 : xx_ml RJ2 380 yJ7_fill_eb02e := Or.inl (gv_J _ (List.mem_of_getElem? (i := 123) rfl))
theorem ml_J4_50 : xx_ml RJ4 50 yJ5_append_3fe6f := Or.inl (gv_J _ (List.mem_of_getElem? (i := 124) rfl))
theorem ml_J5_191 : xx_ml RJ5 191 yJ1_canEncode_fc78d := Or.inl (gv_J _ (List.mem_of_getElem? (i := 125) rfl))
theorem ml_J5_197 : xx_ml RJ5 197 yJ2_putCharSB_b72d1 := Or.inl (gv_J _ (List.mem_of_getElem? (i := 126) rfl))
theorem ml_J2_67 : xx_ml RJ2 67 yJ2_checkIndex_2214a := Or.inl (gv_J _ (List.mem_of_getElem? (i := 127) rfl))
theorem ml_J2_414 : xx_ml RJ2 414 yJ0_checkIndex_df160 := Or.inl (gv_J _ (List.mem_of_getElem? (i := 128) rfl))
theorem ml_J0_1059 : xx_ml RJ0 1059 yJ3_checkIndex_8e157 := Or.inl (gv_J _ (List.mem_of_getElem? (i := 129) rfl))
theorem cw_L_14 : Cond.classLink RL 14 "WavesaleLaw$Out" ∈ xx_gws := (gv_J _ (List.mem_of_getElem? (i := 130) rfl))
theorem cw_L_19 : Cond.classLink RL 19 "java/lang/IllegalArgumentException" ∈ xx_gws := (gv_J _ (List.mem_of_getElem? (i := 131) rfl))
theorem cw_L_21 : Cond.classLink RL 21 "java/lang/IllegalStateException" ∈ xx_gws := (gv_J _ (List.mem_of_getElem? (i := 132) rfl))
theorem cw_X7_90 : Cond.classLink RX7 90 "java/lang/IllegalArgumentException" ∈ xx_gws := (gv_J _ (List.mem_of_getElem? (i := 133) rfl))
theorem cw_X7_72 : Cond.classLink RX7 72 "java/lang/IllegalStateException" ∈ xx_gws := (gv_J _ (List.mem_of_getElem? (i := 134) rfl))
theorem cw_L_27 : Cond.classLink RL 27 "java/lang/IndexOutOfBoundsException" ∈ xx_gws := (gv_J _ (List.mem_of_getElem? (i := 135) rfl))
theorem cw_X7_268 : Cond.classLink RX7 268 "java/lang/IndexOutOfBoundsException" ∈ xx_gws := (gv_J _ (List.mem_of_getElem? (i := 136) rfl))
theorem cw_L_137 : Cond.classLink RL 137 "WavesaleModel" ∈ xx_gws := (gv_J _ (List.mem_of_getElem? (i := 137) rfl))
theorem cw_X14_20 : Cond.classLink RX14 20 "java/util/ArrayList" ∈ xx_gws := (gv_J _ (List.mem_of_getElem? (i := 138) rfl))
theorem ml_Jx4a65c_1 : xx_ml RJx4a65c 1 yJxc12de_init_da8c8 := Or.inl (gv_J _ (List.mem_of_getElem? (i := 139) rfl))
theorem ml_Jxc12de_1 : xx_ml RJxc12de 1 yJxa1e45_init_da8c8 := Or.inl (gv_J _ (List.mem_of_getElem? (i := 140) rfl))
theorem oi_Jxa1e45_1 : Cond.methodLink RJxa1e45 1 Lib.objectInit ∈ xx_gws ∧ Cond.instanceMethod Lib.objectInit ∈ xx_gws ∧ Cond.code Lib.objectInit ⟨#[0xb1]⟩ 1 none ∈ xx_gws := ⟨(gv_J _ (List.mem_of_getElem? (i := 141) rfl)), oi_2, oi_3⟩
theorem gs_Jx4a65c_39 : Cond.fieldLink RJx4a65c 39 "java/util/ArrayList" "DEFAULTCAPACITY_EMPTY_ELEMENTDATA" "[Ljava/lang/Object;" ∈ xx_gws := (gv_J _ (List.mem_of_getElem? (i := 142) rfl))
theorem fl_Jx4a65c_9 : xx_fl RJx4a65c 9 RJx4a65c TJx4a65c 1 := ⟨Or.inl (gv_J _ (List.mem_of_getElem? (i := 143) rfl)), rfl⟩
theorem fl_Jx35411_37 : xx_fl RJx35411 37 RJx4a65c TJx4a65c 1 := ⟨Or.inl (gv_J _ (List.mem_of_getElem? (i := 144) rfl)), rfl⟩
theorem fl_Jx4a65c_48 : xx_fl RJx4a65c 48 RJx4a65c TJx4a65c 2 := ⟨Or.inl (gv_J _ (List.mem_of_getElem? (i := 145) rfl)), rfl⟩
theorem cw_X14_65 : Cond.classLink RX14 65 "WavesaleModel$Region" ∈ xx_gws := (gv_J _ (List.mem_of_getElem? (i := 150) rfl))
theorem ml_Jx4a65c_131 : xx_ml RJx4a65c 131 yJx4a65c_add_72be8 := Or.inl (gv_J _ (List.mem_of_getElem? (i := 151) rfl))
theorem ml_Jx4a65c_129 : xx_ml RJx4a65c 129 yJx4a65c_grow_d5877 := Or.inl (gv_J _ (List.mem_of_getElem? (i := 152) rfl))
theorem ml_Jx4a65c_69 : xx_ml RJx4a65c 69 yJx4a65c_grow_92f84 := Or.inl (gv_J _ (List.mem_of_getElem? (i := 153) rfl))
theorem ml_Jx4a65c_73 : xx_ml RJx4a65c 73 yJ8_newLength_cabcc := Or.inl (gv_J _ (List.mem_of_getElem? (i := 154) rfl))
theorem ml_Jx4a65c_66 : xx_ml RJx4a65c 66 yJ7_copyOf_1904c := Or.inl (gv_J _ (List.mem_of_getElem? (i := 155) rfl))
theorem gc_J7_86 : Cond.methodLink RJ7 86 ⟨"java/lang/Object", "getClass", "()Ljava/lang/Class;"⟩ ∈ xx_gws := (gv_J _ (List.mem_of_getElem? (i := 156) rfl))
theorem ml_J7_300 : xx_ml RJ7 300 yJ7_copyOf_6403c := Or.inl (gv_J _ (List.mem_of_getElem? (i := 159) rfl))
theorem cw_J7_110 : Cond.classLink RJ7 110 "[Ljava/lang/Object;" ∈ xx_gws := (gv_J _ (List.mem_of_getElem? (i := 160) rfl))
theorem cw_J7_2 : Cond.classLink RJ7 2 "java/lang/Object" ∈ xx_gws := (gv_J _ (List.mem_of_getElem? (i := 161) rfl))
theorem ml_Jx4a65c_79 : xx_ml RJx4a65c 79 yJ9_max_7cf53 := Or.inl (gv_J _ (List.mem_of_getElem? (i := 162) rfl))
theorem mm_Jx4a65c_79 : xx_mmax RJx4a65c 79 := ⟨(gv_J _ (List.mem_of_getElem? (i := 162) rfl)), st_J9_max_7cf53, ce_J9_max_7cf53.2.1, ce_J9_max_7cf53.1⟩
theorem cw_Jx4a65c_7 : Cond.classLink RJx4a65c 7 "java/lang/Object" ∈ xx_gws := (gv_J _ (List.mem_of_getElem? (i := 163) rfl))
theorem ml_Jx4a65c_118 : xx_ml RJx4a65c 118 yJ15_checkIndex_7cf53 := Or.inl (gv_J _ (List.mem_of_getElem? (i := 164) rfl))
theorem ml_J15_105 : xx_ml RJ15 105 yJ3_checkIndex_8e157 := Or.inl (gv_J _ (List.mem_of_getElem? (i := 165) rfl))
theorem ml_Jx4a65c_123 : xx_ml RJx4a65c 123 yJx4a65c_elementData_915e3 := Or.inl (gv_J _ (List.mem_of_getElem? (i := 166) rfl))
theorem cw_Jx4a65c_267 : Cond.classLink RJx4a65c 267 "java/util/ArrayList$Itr" ∈ xx_gws := (gv_J _ (List.mem_of_getElem? (i := 167) rfl))
theorem nw_Jx4a65c_267 : Cond.classLink RJx4a65c 267 RJx35411 ∈ xx_gws ∧ Cond.instantiable RJx35411 4 ∈ xx_gws ∧ Cond.initialized RJx35411 ∈ xx_gws := ⟨(gv_J _ (List.mem_of_getElem? (i := 167) rfl)), (gv_J _ (List.mem_of_getElem? (i := 168) rfl)), (gv_J _ (List.mem_of_getElem? (i := 1) rfl))⟩
theorem ml_Jx4a65c_269 : xx_ml RJx4a65c 269 yJx35411_init_45d68 := Or.inl (gv_J _ (List.mem_of_getElem? (i := 169) rfl))
theorem oi_Jx35411_7 : Cond.methodLink RJx35411 7 Lib.objectInit ∈ xx_gws ∧ Cond.instanceMethod Lib.objectInit ∈ xx_gws ∧ Cond.code Lib.objectInit ⟨#[0xb1]⟩ 1 none ∈ xx_gws := ⟨(gv_J _ (List.mem_of_getElem? (i := 170) rfl)), oi_2, oi_3⟩
theorem fl_Jx35411_25 : xx_fl RJx35411 25 RJx35411 TJx35411 0 := ⟨Or.inl (gv_J _ (List.mem_of_getElem? (i := 171) rfl)), rfl⟩
theorem fl_Jx35411_13 : xx_fl RJx35411 13 RJx35411 TJx35411 1 := ⟨Or.inl (gv_J _ (List.mem_of_getElem? (i := 172) rfl)), rfl⟩
theorem fl_Jx35411_22 : xx_fl RJx35411 22 RJx35411 TJx35411 2 := ⟨Or.inl (gv_J _ (List.mem_of_getElem? (i := 173) rfl)), rfl⟩
theorem fl_Jx35411_1 : xx_fl RJx35411 1 RJx35411 TJx35411 3 := ⟨Or.inl (gv_J _ (List.mem_of_getElem? (i := 174) rfl)), rfl⟩
theorem fz_Jx35411_1 : Cond.fieldLink RJx35411 1 RJx35411 (TJx35411 3).2.1 (TJx35411 3).2.2.1 ∈ xx_gws ∧ (TJx35411 3).1 = RJx35411 ∧ RJx35411 = RJx35411 := ⟨(gv_J _ (List.mem_of_getElem? (i := 174) rfl)), rfl, rfl⟩
theorem ml_Jx35411_31 : xx_ml RJx35411 31 yJx35411_checkForComodification_da8c8 := Or.inl (gv_J _ (List.mem_of_getElem? (i := 175) rfl))
theorem cw_X14_118 : Cond.classLink RX14 118 "WavesaleModel$Bidder" ∈ xx_gws := (gv_J _ (List.mem_of_getElem? (i := 176) rfl))
theorem cw_X9_7 : Cond.classLink RX9 7 "java/util/ArrayList" ∈ xx_gws := (gv_J _ (List.mem_of_getElem? (i := 177) rfl))
theorem cw_X14_136 : Cond.classLink RX14 136 "WavesaleModel$Clock" ∈ xx_gws := (gv_J _ (List.mem_of_getElem? (i := 178) rfl))
theorem cw_X11_20 : Cond.classLink RX11 20 "java/util/ArrayList" ∈ xx_gws := (gv_J _ (List.mem_of_getElem? (i := 179) rfl))
theorem cw_X11_63 : Cond.classLink RX11 63 "WavesaleModel$Region" ∈ xx_gws := (gv_J _ (List.mem_of_getElem? (i := 180) rfl))
theorem cw_X11_72 : Cond.classLink RX11 72 "WavesaleModel$Bidder" ∈ xx_gws := (gv_J _ (List.mem_of_getElem? (i := 181) rfl))
theorem cw_X14_172 : Cond.classLink RX14 172 "WavesaleModel$Round" ∈ xx_gws := (gv_J _ (List.mem_of_getElem? (i := 182) rfl))
theorem cn_X14_179 : Cond.methodLink RX14 179 ⟨"[I", "clone", "()Ljava/lang/Object;"⟩ ∈ xx_gws := (gv_J _ (List.mem_of_getElem? (i := 183) rfl))
theorem cw_X14_180 : Cond.classLink RX14 180 "[I" ∈ xx_gws := (gv_J _ (List.mem_of_getElem? (i := 186) rfl))
theorem cn_X14_185 : Cond.methodLink RX14 185 ⟨"[Z", "clone", "()Ljava/lang/Object;"⟩ ∈ xx_gws := (gv_J _ (List.mem_of_getElem? (i := 187) rfl))
theorem cw_X14_186 : Cond.classLink RX14 186 "[Z" ∈ xx_gws := (gv_J _ (List.mem_of_getElem? (i := 190) rfl))
theorem cw_X11_80 : Cond.classLink RX11 80 "[I" ∈ xx_gws := (gv_J _ (List.mem_of_getElem? (i := 191) rfl))
theorem cn_X11_92 : Cond.methodLink RX11 92 ⟨"[I", "clone", "()Ljava/lang/Object;"⟩ ∈ xx_gws := (gv_J _ (List.mem_of_getElem? (i := 192) rfl))
theorem gs_J6_191 : Cond.fieldLink RJ6 191 "java/lang/Integer$IntegerCache" "high" "I" ∈ xx_gws := (gv_J _ (List.mem_of_getElem? (i := 193) rfl))
theorem gs_J6_195 : Cond.fieldLink RJ6 195 "java/lang/Integer$IntegerCache" "cache" "[Ljava/lang/Integer;" ∈ xx_gws := (gv_J _ (List.mem_of_getElem? (i := 194) rfl))
theorem cw_J6_1 : Cond.classLink RJ6 1 "java/lang/Integer" ∈ xx_gws := (gv_J _ (List.mem_of_getElem? (i := 195) rfl))
theorem nw_J6_1 : Cond.classLink RJ6 1 RJ6 ∈ xx_gws ∧ Cond.instantiable RJ6 1 ∈ xx_gws ∧ Cond.initialized RJ6 ∈ xx_gws := ⟨(gv_J _ (List.mem_of_getElem? (i := 195) rfl)), (gv_J _ (List.mem_of_getElem? (i := 196) rfl)), (gv_J _ (List.mem_of_getElem? (i := 0) rfl))⟩
theorem ml_J6_199 : xx_ml RJ6 199 yJ6_init_d00df := Or.inl (gv_J _ (List.mem_of_getElem? (i := 197) rfl))
theorem ml_J6_202 : xx_ml RJ6 202 yJxd2413_init_da8c8 := Or.inl (gv_J _ (List.mem_of_getElem? (i := 198) rfl))
theorem oi_Jxd2413_1 : Cond.methodLink RJxd2413 1 Lib.objectInit ∈ xx_gws ∧ Cond.instanceMethod Lib.objectInit ∈ xx_gws ∧ Cond.code Lib.objectInit ⟨#[0xb1]⟩ 1 none ∈ xx_gws := ⟨(gv_J _ (List.mem_of_getElem? (i := 199) rfl)), oi_2, oi_3⟩
theorem fl_J6_205 : xx_fl RJ6 205 RJ6 TJ6 0 := ⟨Or.inl (gv_J _ (List.mem_of_getElem? (i := 200) rfl)), rfl⟩
theorem fz_J6_205 : Cond.fieldLink RJ6 205 RJ6 (TJ6 0).2.1 (TJ6 0).2.2.1 ∈ xx_gws ∧ (TJ6 0).1 = RJ6 ∧ RJ6 = RJ6 := ⟨(gv_J _ (List.mem_of_getElem? (i := 200) rfl)), rfl, rfl⟩
theorem cw_X14_218 : Cond.classLink RX14 218 "WavesaleModel$Choice" ∈ xx_gws := (gv_J _ (List.mem_of_getElem? (i := 201) rfl))
theorem cw_X10_49 : Cond.classLink RX10 49 "WavesaleModel$Region" ∈ xx_gws := (gv_J _ (List.mem_of_getElem? (i := 202) rfl))
theorem cw_X10_76 : Cond.classLink RX10 76 "WavesaleModel$Bidder" ∈ xx_gws := (gv_J _ (List.mem_of_getElem? (i := 203) rfl))
theorem cw_X9_24 : Cond.classLink RX9 24 "java/lang/Integer" ∈ xx_gws := (gv_J _ (List.mem_of_getElem? (i := 204) rfl))
theorem cw_X14_113 : Cond.classLink RX14 113 "java/lang/Integer" ∈ xx_gws := (gv_J _ (List.mem_of_getElem? (i := 205) rfl))
theorem cw_X14_332 : Cond.classLink RX14 332 "java/lang/StringBuilder" ∈ xx_gws := (gv_J _ (List.mem_of_getElem? (i := 206) rfl))
theorem cw_J0_10 : Cond.classLink RJ0 10 "java/lang/String" ∈ xx_gws := (gv_J _ (List.mem_of_getElem? (i := 207) rfl))
theorem nw_J0_10 : Cond.classLink RJ0 10 RJ0 ∈ xx_gws ∧ Cond.instantiable RJ0 4 ∈ xx_gws ∧ Cond.initialized RJ0 ∈ xx_gws := ⟨(gv_J _ (List.mem_of_getElem? (i := 207) rfl)), (gv_J _ (List.mem_of_getElem? (i := 87) rfl)), (gv_J _ (List.mem_of_getElem? (i := 3) rfl))⟩
theorem ml_J0_541 : xx_ml RJ0 541 yJ1_equals_b5fdf := Or.inl (gv_J _ (List.mem_of_getElem? (i := 208) rfl))
def xx_cas : List Cond := [(Jvm.Cond.castable "Wavesale" "java/lang/Object"), (Jvm.Cond.castable "Wavesale$Clock" "java/lang/Object"), (Jvm.Cond.castable "Wavesale$Market" "java/lang/Object"), (Jvm.Cond.castable "Wavesale$Names" "java/lang/Object"), (Jvm.Cond.castable "Wavesale$Payments" "java/lang/Object"), (Jvm.Cond.castable "Wavesale$Stations" "java/lang/Object"), (Jvm.Cond.castable "Wavesale$Terms" "java/lang/Object"), (Jvm.Cond.castable "WavesaleLaw$Out" "java/lang/Object"), (Jvm.Cond.castable "WavesaleModel" "java/lang/Object"), (Jvm.Cond.castable "WavesaleModel$Bidder" "java/lang/Object"), (Jvm.Cond.castable "WavesaleModel$Choice" "java/lang/Object"), (Jvm.Cond.castable "WavesaleModel$Clock" "java/lang/Object"), (Jvm.Cond.castable "WavesaleModel$Region" "java/lang/Object"), (Jvm.Cond.castable "WavesaleModel$Round" "java/lang/Object"), (Jvm.Cond.castable "[B" "java/lang/Cloneable"), (Jvm.Cond.castable "[B" "java/lang/Object"), (Jvm.Cond.castable "[I" "java/lang/Cloneable"), (Jvm.Cond.castable "[I" "java/lang/Object"), (Jvm.Cond.castable "[Ljava/lang/Object;" "java/lang/Object"), (Jvm.Cond.castable "[Z" "java/lang/Cloneable"), (Jvm.Cond.castable "[Z" "java/lang/Object"), (Jvm.Cond.castable "[[I" "java/lang/Object"), (Jvm.Cond.castable "java/lang/ArrayIndexOutOfBoundsException" "java/lang/ArrayIndexOutOfBoundsException"), (Jvm.Cond.castable "java/lang/ArrayIndexOutOfBoundsException" "java/lang/IndexOutOfBoundsException"), (Jvm.Cond.castable "java/lang/ArrayIndexOutOfBoundsException" "java/lang/Object"), (Jvm.Cond.castable "java/lang/IllegalArgumentException" "java/lang/IllegalArgumentException"), (Jvm.Cond.castable "java/lang/IllegalArgumentException" "java/lang/Object"), (Jvm.Cond.castable "java/lang/IllegalStateException" "java/lang/IllegalStateException"), (Jvm.Cond.castable "java/lang/IllegalStateException" "java/lang/Object"), (Jvm.Cond.castable "java/lang/IndexOutOfBoundsException" "java/lang/IndexOutOfBoundsException"), (Jvm.Cond.castable "java/lang/IndexOutOfBoundsException" "java/lang/Object"), (Jvm.Cond.castable "java/lang/Integer" "java/lang/Object"), (Jvm.Cond.castable "java/lang/String" "java/lang/Object"), (Jvm.Cond.castable "java/lang/StringBuilder" "java/lang/Object"), (Jvm.Cond.castable "java/lang/StringIndexOutOfBoundsException" "java/lang/IndexOutOfBoundsException"), (Jvm.Cond.castable "java/lang/StringIndexOutOfBoundsException" "java/lang/Object"), (Jvm.Cond.castable "java/lang/Throwable" "java/lang/Object"), (Jvm.Cond.castable "java/util/ArrayList" "java/lang/Object"), (Jvm.Cond.castable "java/util/ArrayList$Itr" "java/lang/Object"), (Jvm.Cond.castable "java/util/ArrayList$Itr" "java/util/Iterator")]
theorem xx_cas_ok : ∀ w ∈ xx_cas, w ∈ xx_nws := by decide +kernel
theorem cx_I : Cond.sameMethod "[I" "java/lang/Object" "clone" "()Ljava/lang/Object;" ∈ xx_gws ∧ Cond.native ⟨"java/lang/Object", "clone", "()Ljava/lang/Object;"⟩ ∈ xx_gws ∧ Cond.instanceMethod ⟨"java/lang/Object", "clone", "()Ljava/lang/Object;"⟩ ∈ xx_gws ∧ Cond.selects "[I" ⟨"[I", "clone", "()Ljava/lang/Object;"⟩ ⟨"java/lang/Object", "clone", "()Ljava/lang/Object;"⟩ ∈ xx_gws ∧ Cond.castable "[I" "java/lang/Cloneable" ∈ xx_nws := ⟨(gv_J _ (List.mem_of_getElem? (i := 184) rfl)), (gv_J _ (List.mem_of_getElem? (i := 49) rfl)), (gv_J _ (List.mem_of_getElem? (i := 50) rfl)), (gv_J _ (List.mem_of_getElem? (i := 185) rfl)), xx_cas_ok _ (List.mem_of_getElem? (i := 16) rfl)⟩
theorem cx_Z : Cond.sameMethod "[Z" "java/lang/Object" "clone" "()Ljava/lang/Object;" ∈ xx_gws ∧ Cond.native ⟨"java/lang/Object", "clone", "()Ljava/lang/Object;"⟩ ∈ xx_gws ∧ Cond.instanceMethod ⟨"java/lang/Object", "clone", "()Ljava/lang/Object;"⟩ ∈ xx_gws ∧ Cond.selects "[Z" ⟨"[Z", "clone", "()Ljava/lang/Object;"⟩ ⟨"java/lang/Object", "clone", "()Ljava/lang/Object;"⟩ ∈ xx_gws ∧ Cond.castable "[Z" "java/lang/Cloneable" ∈ xx_nws := ⟨(gv_J _ (List.mem_of_getElem? (i := 188) rfl)), (gv_J _ (List.mem_of_getElem? (i := 49) rfl)), (gv_J _ (List.mem_of_getElem? (i := 50) rfl)), (gv_J _ (List.mem_of_getElem? (i := 189) rfl)), xx_cas_ok _ (List.mem_of_getElem? (i := 19) rfl)⟩
theorem cx_B : Cond.sameMethod "[B" "java/lang/Object" "clone" "()Ljava/lang/Object;" ∈ xx_gws ∧ Cond.native ⟨"java/lang/Object", "clone", "()Ljava/lang/Object;"⟩ ∈ xx_gws ∧ Cond.instanceMethod ⟨"java/lang/Object", "clone", "()Ljava/lang/Object;"⟩ ∈ xx_gws ∧ Cond.selects "[B" ⟨"[B", "clone", "()Ljava/lang/Object;"⟩ ⟨"java/lang/Object", "clone", "()Ljava/lang/Object;"⟩ ∈ xx_gws ∧ Cond.castable "[B" "java/lang/Cloneable" ∈ xx_nws := ⟨(gv_J _ (List.mem_of_getElem? (i := 48) rfl)), (gv_J _ (List.mem_of_getElem? (i := 49) rfl)), (gv_J _ (List.mem_of_getElem? (i := 50) rfl)), (gv_J _ (List.mem_of_getElem? (i := 51) rfl)), xx_cas_ok _ (List.mem_of_getElem? (i := 14) rfl)⟩
theorem ca_X12 : Cond.castable "WavesaleModel$Region" "java/lang/Object" ∈ xx_nws := xx_cas_ok _ (List.mem_of_getElem? (i := 12) rfl)
theorem ca_X9 : Cond.castable "WavesaleModel$Bidder" "java/lang/Object" ∈ xx_nws := xx_cas_ok _ (List.mem_of_getElem? (i := 9) rfl)
theorem ca_X13 : Cond.castable "WavesaleModel$Round" "java/lang/Object" ∈ xx_nws := xx_cas_ok _ (List.mem_of_getElem? (i := 13) rfl)
theorem ca_J6 : Cond.castable "java/lang/Integer" "java/lang/Object" ∈ xx_nws := xx_cas_ok _ (List.mem_of_getElem? (i := 31) rfl)
theorem ca_I : Cond.castable "[I" "java/lang/Object" ∈ xx_nws := xx_cas_ok _ (List.mem_of_getElem? (i := 17) rfl)
/-! ===== decode tables of the JDK ===== -/
noncomputable def dt_J5_init_d00df : List (Nat × Instr × Nat) := [(0, .aload_n 0, 1), (1, .invokespecial 3, 3), (4, .getstatic 18, 3), (7, .ifCond .eq 18, 3), (10, .aload_n 0, 1), (11, .iload_n 1, 1), (12, .newarray .byte, 2), (14, .putfield 15, 3), (17, .aload_n 0, 1), (18, .iconst 0, 1), (19, .putfield 22, 3), (22, .goto 16, 3), (25, .aload_n 0, 1), (26, .iload_n 1, 1), (27, .invokestatic 26, 3), (30, .putfield 15, 3), (33, .aload_n 0, 1), (34, .iconst 1, 1), (35, .putfield 22, 3), (38, .return_, 1)]
theorem dd_J5_init_d00df : ∀ q ∈ dt_J5_init_d00df, decode cJ5_init_d00df q.1 = .ok q.2 := by
  first
  | (refine dw_all ?_; decide +kernel)
  | decide +kernel
noncomputable def dt_J5_length_8abf5 : List (Nat × Instr × Nat) := [(0, .aload_n 0, 1), (1, .getfield 79, 3), (4, .ireturn, 1)]
theorem dd_J5_length_8abf5 : ∀ q ∈ dt_J5_length_8abf5, decode cJ5_length_8abf5 q.1 = .ok q.2 := by
  first
  | (refine dw_all ?_; decide +kernel)
  | decide +kernel
noncomputable def dt_J5_ensureCapacityInternal_d00df : List (Nat × Instr × Nat) := [(0, .aload_n 0, 1), (1, .getfield 15, 3), (4, .arraylength, 1), (5, .aload_n 0, 1), (6, .getfield 22, 3), (9, .ishr, 1), (10, .istore_n 2, 1), (11, .iload_n 1, 1), (12, .iload_n 2, 1), (13, .isub, 1), (14, .ifCond .le 24, 3), (17, .aload_n 0, 1), (18, .aload_n 0, 1), (19, .getfield 15, 3), (22, .aload_n 0, 1), (23, .iload_n 1, 1), (24, .invokevirtual 104, 3), (27, .aload_n 0, 1), (28, .getfield 22, 3), (31, .ishl, 1), (32, .invokestatic 108, 3), (35, .putfield 15, 3), (38, .return_, 1)]
theorem dd_J5_ensureCapacityInternal_d00df : ∀ q ∈ dt_J5_ensureCapacityInternal_d00df, decode cJ5_ensureCapacityInternal_d00df q.1 = .ok q.2 := by
  first
  | (refine dw_all ?_; decide +kernel)
  | decide +kernel
noncomputable def dt_J5_newCapacity_0f7a4 : List (Nat × Instr × Nat) := [(0, .aload_n 0, 1), (1, .getfield 15, 3), (4, .arraylength, 1), (5, .istore_n 2, 1), (6, .iload_n 1, 1), (7, .aload_n 0, 1), (8, .getfield 22, 3), (11, .ishl, 1), (12, .istore_n 3, 1), (13, .iload_n 3, 1), (14, .iload_n 2, 1), (15, .isub, 1), (16, .istore 4, 2), (18, .iload_n 2, 1), (19, .iload 4, 2), (21, .iload_n 2, 1), (22, .iconst 2, 1), (23, .aload_n 0, 1), (24, .getfield 22, 3), (27, .ishl, 1), (28, .iadd, 1), (29, .invokestatic 114, 3), (32, .istore 5, 2), (34, .iload 5, 2), (36, .ldc 39, 2), (38, .if_icmp .ne 13, 3), (41, .new 120, 3), (44, .dup, 1), (45, .ldc 122, 2), (47, .invokespecial 124, 3), (50, .athrow, 1), (51, .iload 5, 2), (53, .aload_n 0, 1), (54, .getfield 22, 3), (57, .ishr, 1), (58, .ireturn, 1)]
theorem dd_J5_newCapacity_0f7a4 : ∀ q ∈ dt_J5_newCapacity_0f7a4, decode cJ5_newCapacity_0f7a4 q.1 = .ok q.2 := by
  first
  | (refine dw_all ?_; decide +kernel)
  | decide +kernel
noncomputable def dt_J5_inflate_da8c8 : List (Nat × Instr × Nat) := [(0, .aload_n 0, 1), (1, .invokevirtual 83, 3), (4, .ifCond .ne 4, 3), (7, .return_, 1), (8, .aload_n 0, 1), (9, .getfield 15, 3), (12, .arraylength, 1), (13, .invokestatic 26, 3), (16, .astore_n 1, 1), (17, .aload_n 0, 1), (18, .getfield 15, 3), (21, .iconst 0, 1), (22, .aload_n 1, 1), (23, .iconst 0, 1), (24, .aload_n 0, 1), (25, .getfield 79, 3), (28, .invokestatic 125, 3), (31, .aload_n 0, 1), (32, .aload_n 1, 1), (33, .putfield 15, 3), (36, .aload_n 0, 1), (37, .iconst 1, 1), (38, .putfield 22, 3), (41, .return_, 1)]
theorem dd_J5_inflate_da8c8 : ∀ q ∈ dt_J5_inflate_da8c8, decode cJ5_inflate_da8c8 q.1 = .ok q.2 := by
  first
  | (refine dw_all ?_; decide +kernel)
  | decide +kernel
noncomputable def dt_J5_setLength_d00df : List (Nat × Instr × Nat) := [(0, .iload_n 1, 1), (1, .ifCond .ge 12, 3), (4, .new 129, 3), (7, .dup, 1), (8, .iload_n 1, 1), (9, .invokespecial 131, 3), (12, .athrow, 1), (13, .aload_n 0, 1), (14, .iload_n 1, 1), (15, .invokevirtual 100, 3), (18, .aload_n 0, 1), (19, .getfield 79, 3), (22, .iload_n 1, 1), (23, .if_icmp .ge 40, 3), (26, .aload_n 0, 1), (27, .invokevirtual 83, 3), (30, .ifCond .eq 18, 3), (33, .aload_n 0, 1), (34, .getfield 15, 3), (37, .aload_n 0, 1), (38, .getfield 79, 3), (41, .iload_n 1, 1), (42, .invokestatic 133, 3), (45, .goto 31, 3), (48, .aload_n 0, 1), (49, .getfield 15, 3), (52, .aload_n 0, 1), (53, .getfield 79, 3), (56, .iload_n 1, 1), (57, .invokestatic 137, 3), (60, .goto 16, 3), (63, .aload_n 0, 1), (64, .getfield 79, 3), (67, .iload_n 1, 1), (68, .if_icmp .le 8, 3), (71, .aload_n 0, 1), (72, .iconst 1, 1), (73, .putfield 73, 3), (76, .aload_n 0, 1), (77, .iload_n 1, 1), (78, .putfield 79, 3), (81, .return_, 1)]
theorem dd_J5_setLength_d00df : ∀ q ∈ dt_J5_setLength_d00df, decode cJ5_setLength_d00df q.1 = .ok q.2 := by
  first
  | (refine dw_all ?_; decide +kernel)
  | decide +kernel
noncomputable def dt_J5_append_cf1ce : List (Nat × Instr × Nat) := [(0, .aload_n 1, 1), (1, .ifnonnull 8, 3), (4, .aload_n 0, 1), (5, .invokevirtual 204, 3), (8, .areturn, 1), (9, .aload_n 1, 1), (10, .invokevirtual 32, 3), (13, .istore_n 2, 1), (14, .aload_n 0, 1), (15, .aload_n 0, 1), (16, .getfield 79, 3), (19, .iload_n 2, 1), (20, .iadd, 1), (21, .invokevirtual 100, 3), (24, .aload_n 0, 1), (25, .aload_n 0, 1), (26, .getfield 79, 3), (29, .aload_n 1, 1), (30, .invokevirtual 208, 3), (33, .aload_n 0, 1), (34, .dup, 1), (35, .getfield 79, 3), (38, .iload_n 2, 1), (39, .iadd, 1), (40, .putfield 79, 3), (43, .aload_n 0, 1), (44, .areturn, 1)]
theorem dd_J5_append_cf1ce : ∀ q ∈ dt_J5_append_cf1ce, decode cJ5_append_cf1ce q.1 = .ok q.2 := by
  first
  | (refine dw_all ?_; decide +kernel)
  | decide +kernel
noncomputable def dt_J5_appendNull_278bc : List (Nat × Instr × Nat) := [(0, .aload_n 0, 1), (1, .aload_n 0, 1), (2, .getfield 79, 3), (5, .iconst 4, 1), (6, .iadd, 1), (7, .invokevirtual 100, 3), (10, .aload_n 0, 1), (11, .getfield 79, 3), (14, .istore_n 1, 1), (15, .aload_n 0, 1), (16, .getfield 15, 3), (19, .astore_n 2, 1), (20, .aload_n 0, 1), (21, .invokevirtual 83, 3), (24, .ifCond .eq 38, 3), (27, .aload_n 2, 1), (28, .iload_n 1, 1), (29, .iinc 1 1, 3), (32, .bipush 110, 2), (34, .bastore, 1), (35, .aload_n 2, 1), (36, .iload_n 1, 1), (37, .iinc 1 1, 3), (40, .bipush 117, 2), (42, .bastore, 1), (43, .aload_n 2, 1), (44, .iload_n 1, 1), (45, .iinc 1 1, 3), (48, .bipush 108, 2), (50, .bastore, 1), (51, .aload_n 2, 1), (52, .iload_n 1, 1), (53, .iinc 1 1, 3), (56, .bipush 108, 2), (58, .bastore, 1), (59, .goto 17, 3), (62, .aload_n 2, 1), (63, .iload_n 1, 1), (64, .bipush 110, 2), (66, .bipush 117, 2), (68, .bipush 108, 2), (70, .bipush 108, 2), (72, .invokestatic 226, 3), (75, .istore_n 1, 1), (76, .aload_n 0, 1), (77, .iload_n 1, 1), (78, .putfield 79, 3), (81, .aload_n 0, 1), (82, .areturn, 1)]
theorem dd_J5_appendNull_278bc : ∀ q ∈ dt_J5_appendNull_278bc, decode cJ5_appendNull_278bc q.1 = .ok q.2 := by
  first
  | (refine dw_all ?_; decide +kernel)
  | decide +kernel
noncomputable def dt_J5_append_3fe6f : List (Nat × Instr × Nat) := [(0, .aload_n 0, 1), (1, .aload_n 0, 1), (2, .getfield 79, 3), (5, .iconst 1, 1), (6, .iadd, 1), (7, .invokevirtual 100, 3), (10, .aload_n 0, 1), (11, .invokevirtual 83, 3), (14, .ifCond .eq 31, 3), (17, .iload_n 1, 1), (18, .invokestatic 191, 3), (21, .ifCond .eq 24, 3), (24, .aload_n 0, 1), (25, .getfield 15, 3), (28, .aload_n 0, 1), (29, .dup, 1), (30, .getfield 79, 3), (33, .dup_x1, 1), (34, .iconst 1, 1), (35, .iadd, 1), (36, .putfield 79, 3), (39, .iload_n 1, 1), (40, .i2b, 1), (41, .bastore, 1), (42, .goto 33, 3), (45, .aload_n 0, 1), (46, .invokevirtual 83, 3), (49, .ifCond .eq 7, 3), (52, .aload_n 0, 1), (53, .invokevirtual 195, 3), (56, .aload_n 0, 1), (57, .getfield 15, 3), (60, .aload_n 0, 1), (61, .dup, 1), (62, .getfield 79, 3), (65, .dup_x1, 1), (66, .iconst 1, 1), (67, .iadd, 1), (68, .putfield 79, 3), (71, .iload_n 1, 1), (72, .invokestatic 197, 3), (75, .aload_n 0, 1), (76, .areturn, 1)]
theorem dd_J5_append_3fe6f : ∀ q ∈ dt_J5_append_3fe6f, decode cJ5_append_3fe6f q.1 = .ok q.2 := by
  first
  | (refine dw_all ?_; decide +kernel)
  | decide +kernel
noncomputable def dt_J5_append_c97b9 : List (Nat × Instr × Nat) := [(0, .aload_n 0, 1), (1, .getfield 79, 3), (4, .istore_n 2, 1), (5, .iload_n 2, 1), (6, .iload_n 1, 1), (7, .invokestatic 245, 3), (10, .iadd, 1), (11, .istore_n 3, 1), (12, .aload_n 0, 1), (13, .iload_n 3, 1), (14, .invokevirtual 100, 3), (17, .aload_n 0, 1), (18, .invokevirtual 83, 3), (21, .ifCond .eq 16, 3), (24, .iload_n 1, 1), (25, .iload_n 3, 1), (26, .aload_n 0, 1), (27, .getfield 15, 3), (30, .invokestatic 248, 3), (33, .pop, 1), (34, .goto 14, 3), (37, .iload_n 1, 1), (38, .iload_n 2, 1), (39, .iload_n 3, 1), (40, .aload_n 0, 1), (41, .getfield 15, 3), (44, .invokestatic 251, 3), (47, .pop, 1), (48, .aload_n 0, 1), (49, .iload_n 3, 1), (50, .putfield 79, 3), (53, .aload_n 0, 1), (54, .areturn, 1)]
theorem dd_J5_append_c97b9 : ∀ q ∈ dt_J5_append_c97b9, decode cJ5_append_c97b9 q.1 = .ok q.2 := by
  first
  | (refine dw_all ?_; decide +kernel)
  | decide +kernel
noncomputable def dt_J5_getValue_6d5f1 : List (Nat × Instr × Nat) := [(0, .aload_n 0, 1), (1, .getfield 15, 3), (4, .areturn, 1)]
theorem dd_J5_getValue_6d5f1 : ∀ q ∈ dt_J5_getValue_6d5f1, decode cJ5_getValue_6d5f1 q.1 = .ok q.2 := by
  first
  | (refine dw_all ?_; decide +kernel)
  | decide +kernel
noncomputable def dt_J5_isLatin1_aae02 : List (Nat × Instr × Nat) := [(0, .getstatic 18, 3), (3, .ifCond .eq 14, 3), (6, .aload_n 0, 1), (7, .getfield 22, 3), (10, .ifCond .ne 7, 3), (13, .iconst 1, 1), (14, .goto 4, 3), (17, .iconst 0, 1), (18, .ireturn, 1)]
theorem dd_J5_isLatin1_aae02 : ∀ q ∈ dt_J5_isLatin1_aae02, decode cJ5_isLatin1_aae02 q.1 = .ok q.2 := by
  first
  | (refine dw_all ?_; decide +kernel)
  | decide +kernel
noncomputable def dt_J5_inflateIfNeededFor_a7421 : List (Nat × Instr × Nat) := [(0, .getstatic 18, 3), (3, .ifCond .eq 18, 3), (6, .aload_n 0, 1), (7, .getfield 22, 3), (10, .aload_n 1, 1), (11, .invokevirtual 40, 3), (14, .if_icmp .eq 7, 3), (17, .aload_n 0, 1), (18, .invokevirtual 195, 3), (21, .return_, 1)]
theorem dd_J5_inflateIfNeededFor_a7421 : ∀ q ∈ dt_J5_inflateIfNeededFor_a7421, decode cJ5_inflateIfNeededFor_a7421 q.1 = .ok q.2 := by
  first
  | (refine dw_all ?_; decide +kernel)
  | decide +kernel
noncomputable def dt_J5_putStringAt_47b60 : List (Nat × Instr × Nat) := [(0, .aload_n 0, 1), (1, .aload_n 2, 1), (2, .invokevirtual 397, 3), (5, .aload_n 2, 1), (6, .aload_n 0, 1), (7, .getfield 15, 3), (10, .iload_n 1, 1), (11, .aload_n 0, 1), (12, .getfield 22, 3), (15, .invokevirtual 399, 3), (18, .return_, 1)]
theorem dd_J5_putStringAt_47b60 : ∀ q ∈ dt_J5_putStringAt_47b60, decode cJ5_putStringAt_47b60 q.1 = .ok q.2 := by
  first
  | (refine dw_all ?_; decide +kernel)
  | decide +kernel
noncomputable def dt_Jx00060_init_d00df : List (Nat × Instr × Nat) := [(0, .aload_n 0, 1), (1, .new 10, 3), (4, .dup, 1), (5, .invokespecial 12, 3), (8, .ldc 13, 2), (10, .invokevirtual 15, 3), (13, .iload_n 1, 1), (14, .invokevirtual 19, 3), (17, .invokevirtual 22, 3), (20, .invokespecial 7, 3), (23, .return_, 1)]
theorem dd_Jx00060_init_d00df : ∀ q ∈ dt_Jx00060_init_d00df, decode cJx00060_init_d00df q.1 = .ok q.2 := by
  first
  | (refine dw_all ?_; decide +kernel)
  | decide +kernel
noncomputable def dt_J6_getChars_ba4f3 : List (Nat × Instr × Nat) := [(0, .iload_n 1, 1), (1, .istore 5, 2), (3, .iload_n 0, 1), (4, .ifCond .ge 7, 3), (7, .iconst 1, 1), (8, .goto 4, 3), (11, .iconst 0, 1), (12, .istore 6, 2), (14, .iload 6, 2), (16, .ifCond .ne 6, 3), (19, .iload_n 0, 1), (20, .ineg, 1), (21, .istore_n 0, 1), (22, .iload_n 0, 1), (23, .bipush (-100), 2), (25, .if_icmp .gt 47, 3), (28, .iload_n 0, 1), (29, .bipush 100, 2), (31, .idiv, 1), (32, .istore_n 3, 1), (33, .iload_n 3, 1), (34, .bipush 100, 2), (36, .imul, 1), (37, .iload_n 0, 1), (38, .isub, 1), (39, .istore 4, 2), (41, .iload_n 3, 1), (42, .istore_n 0, 1), (43, .aload_n 2, 1), (44, .iinc 5 (-1), 3), (47, .iload 5, 2), (49, .getstatic 83, 3), (52, .iload 4, 2), (54, .baload, 1), (55, .bastore, 1), (56, .aload_n 2, 1), (57, .iinc 5 (-1), 3), (60, .iload 5, 2), (62, .getstatic 87, 3), (65, .iload 4, 2), (67, .baload, 1), (68, .bastore, 1), (69, .goto (-47), 3), (72, .aload_n 2, 1), (73, .iinc 5 (-1), 3), (76, .iload 5, 2), (78, .getstatic 83, 3), (81, .iload_n 0, 1), (82, .ineg, 1), (83, .baload, 1), (84, .bastore, 1), (85, .iload_n 0, 1), (86, .bipush (-9), 2), (88, .if_icmp .ge 16, 3), (91, .aload_n 2, 1), (92, .iinc 5 (-1), 3), (95, .iload 5, 2), (97, .getstatic 87, 3), (100, .iload_n 0, 1), (101, .ineg, 1), (102, .baload, 1), (103, .bastore, 1), (104, .iload 6, 2), (106, .ifCond .eq 12, 3), (109, .aload_n 2, 1), (110, .iinc 5 (-1), 3), (113, .iload 5, 2), (115, .bipush 45, 2), (117, .bastore, 1), (118, .iload 5, 2), (120, .ireturn, 1)]
theorem dd_J6_getChars_ba4f3 : ∀ q ∈ dt_J6_getChars_ba4f3, decode cJ6_getChars_ba4f3 q.1 = .ok q.2 := by
  first
  | (refine dw_all ?_; decide +kernel)
  | decide +kernel
noncomputable def dt_J6_stringSize_0f7a4 : List (Nat × Instr × Nat) := [(0, .iconst 1, 1), (1, .istore_n 1, 1), (2, .iload_n 0, 1), (3, .ifCond .lt 8, 3), (6, .iconst 0, 1), (7, .istore_n 1, 1), (8, .iload_n 0, 1), (9, .ineg, 1), (10, .istore_n 0, 1), (11, .bipush (-10), 2), (13, .istore_n 2, 1), (14, .iconst 1, 1), (15, .istore_n 3, 1), (16, .iload_n 3, 1), (17, .bipush 10, 2), (19, .if_icmp .ge 23, 3), (22, .iload_n 0, 1), (23, .iload_n 2, 1), (24, .if_icmp .le 7, 3), (27, .iload_n 3, 1), (28, .iload_n 1, 1), (29, .iadd, 1), (30, .ireturn, 1), (31, .bipush 10, 2), (33, .iload_n 2, 1), (34, .imul, 1), (35, .istore_n 2, 1), (36, .iinc 3 1, 3), (39, .goto (-23), 3), (42, .bipush 10, 2), (44, .iload_n 1, 1), (45, .iadd, 1), (46, .ireturn, 1)]
theorem dd_J6_stringSize_0f7a4 : ∀ q ∈ dt_J6_stringSize_0f7a4, decode cJ6_stringSize_0f7a4 q.1 = .ok q.2 := by
  first
  | (refine dw_all ?_; decide +kernel)
  | decide +kernel
noncomputable def dt_J6_valueOf_2dffe : List (Nat × Instr × Nat) := [(0, .iload_n 0, 1), (1, .bipush (-128), 2), (3, .if_icmp .lt 20, 3), (6, .iload_n 0, 1), (7, .getstatic 191, 3), (10, .if_icmp .gt 13, 3), (13, .getstatic 195, 3), (16, .iload_n 0, 1), (17, .sipush 128, 3), (20, .iadd, 1), (21, .aaload, 1), (22, .areturn, 1), (23, .new 1, 3), (26, .dup, 1), (27, .iload_n 0, 1), (28, .invokespecial 199, 3), (31, .areturn, 1)]
theorem dd_J6_valueOf_2dffe : ∀ q ∈ dt_J6_valueOf_2dffe, decode cJ6_valueOf_2dffe q.1 = .ok q.2 := by
  first
  | (refine dw_all ?_; decide +kernel)
  | decide +kernel
noncomputable def dt_J6_init_d00df : List (Nat × Instr × Nat) := [(0, .aload_n 0, 1), (1, .invokespecial 202, 3), (4, .aload_n 0, 1), (5, .iload_n 1, 1), (6, .putfield 205, 3), (9, .return_, 1)]
theorem dd_J6_init_d00df : ∀ q ∈ dt_J6_init_d00df, decode cJ6_init_d00df q.1 = .ok q.2 := by
  first
  | (refine dw_all ?_; decide +kernel)
  | decide +kernel
noncomputable def dt_J6_intValue_8abf5 : List (Nat × Instr × Nat) := [(0, .aload_n 0, 1), (1, .getfield 205, 3), (4, .ireturn, 1)]
theorem dd_J6_intValue_8abf5 : ∀ q ∈ dt_J6_intValue_8abf5, decode cJ6_intValue_8abf5 q.1 = .ok q.2 := by
  first
  | (refine dw_all ?_; decide +kernel)
  | decide +kernel
noncomputable def dt_Jxd2413_init_da8c8 : List (Nat × Instr × Nat) := [(0, .aload_n 0, 1), (1, .invokespecial 1, 3), (4, .return_, 1)]
theorem dd_Jxd2413_init_da8c8 : ∀ q ∈ dt_Jxd2413_init_da8c8, decode cJxd2413_init_da8c8 q.1 = .ok q.2 := by
  first
  | (refine dw_all ?_; decide +kernel)
  | decide +kernel
noncomputable def dt_J0_init_81219 : List (Nat × Instr × Nat) := [(0, .aload_n 0, 1), (1, .aload_n 1, 1), (2, .aconst_null, 1), (3, .invokespecial 489, 3), (6, .return_, 1)]
theorem dd_J0_init_81219 : ∀ q ∈ dt_J0_init_81219, decode cJ0_init_81219 q.1 = .ok q.2 := by
  first
  | (refine dw_all ?_; decide +kernel)
  | decide +kernel
noncomputable def dt_J0_length_8abf5 : List (Nat × Instr × Nat) := [(0, .aload_n 0, 1), (1, .getfield 9, 3), (4, .arraylength, 1), (5, .aload_n 0, 1), (6, .invokevirtual 335, 3), (9, .ishr, 1), (10, .ireturn, 1)]
theorem dd_J0_length_8abf5 : ∀ q ∈ dt_J0_length_8abf5, decode cJ0_length_8abf5 q.1 = .ok q.2 := by
  first
  | (refine dw_all ?_; decide +kernel)
  | decide +kernel
noncomputable def dt_J0_equals_9ea2d : List (Nat × Instr × Nat) := [(0, .aload_n 0, 1), (1, .aload_n 1, 1), (2, .if_acmp .ne 5, 3), (5, .iconst 1, 1), (6, .ireturn, 1), (7, .aload_n 1, 1), (8, .instanceof 10, 3), (11, .ifCond .eq 43, 3), (14, .aload_n 1, 1), (15, .checkcast 10, 3), (18, .astore_n 2, 1), (19, .getstatic 38, 3), (22, .ifCond .eq 14, 3), (25, .aload_n 0, 1), (26, .getfield 15, 3), (29, .aload_n 2, 1), (30, .getfield 15, 3), (33, .if_icmp .ne 21, 3), (36, .aload_n 0, 1), (37, .getfield 9, 3), (40, .aload_n 2, 1), (41, .getfield 9, 3), (44, .invokestatic 541, 3), (47, .ifCond .eq 7, 3), (50, .iconst 1, 1), (51, .goto 4, 3), (54, .iconst 0, 1), (55, .ireturn, 1)]
theorem dd_J0_equals_9ea2d : ∀ q ∈ dt_J0_equals_9ea2d, decode cJ0_equals_9ea2d q.1 = .ok q.2 := by
  first
  | (refine dw_all ?_; decide +kernel)
  | decide +kernel
noncomputable def dt_J0_getBytes_840e7 : List (Nat × Instr × Nat) := [(0, .aload_n 0, 1), (1, .invokevirtual 335, 3), (4, .iload_n 3, 1), (5, .if_icmp .ne 23, 3), (8, .aload_n 0, 1), (9, .getfield 9, 3), (12, .iconst 0, 1), (13, .aload_n 1, 1), (14, .iload_n 2, 1), (15, .iload_n 3, 1), (16, .ishl, 1), (17, .aload_n 0, 1), (18, .getfield 9, 3), (21, .arraylength, 1), (22, .invokestatic 212, 3), (25, .goto 18, 3), (28, .aload_n 0, 1), (29, .getfield 9, 3), (32, .iconst 0, 1), (33, .aload_n 1, 1), (34, .iload_n 2, 1), (35, .aload_n 0, 1), (36, .getfield 9, 3), (39, .arraylength, 1), (40, .invokestatic 106, 3), (43, .return_, 1)]
theorem dd_J0_getBytes_840e7 : ∀ q ∈ dt_J0_getBytes_840e7, decode cJ0_getBytes_840e7 q.1 = .ok q.2 := by
  first
  | (refine dw_all ?_; decide +kernel)
  | decide +kernel
noncomputable def dt_J0_init_db425 : List (Nat × Instr × Nat) := [(0, .aload_n 0, 1), (1, .invokespecial 1, 3), (4, .aload_n 1, 1), (5, .invokevirtual 552, 3), (8, .astore_n 3, 1), (9, .aload_n 1, 1), (10, .invokevirtual 549, 3), (13, .istore 4, 2), (15, .aload_n 1, 1), (16, .invokevirtual 1047, 3), (19, .ifCond .eq 22, 3), (22, .aload_n 0, 1), (23, .iconst 0, 1), (24, .putfield 15, 3), (27, .aload_n 0, 1), (28, .aload_n 3, 1), (29, .iconst 0, 1), (30, .iload 4, 2), (32, .invokestatic 54, 3), (35, .putfield 9, 3), (38, .goto 59, 3), (41, .getstatic 38, 3), (44, .ifCond .eq 35, 3), (47, .aload_n 1, 1), (48, .getfield 1048, 3), (51, .ifCond .eq 28, 3), (54, .aload_n 0, 1), (55, .aload_n 3, 1), (56, .iconst 0, 1), (57, .iload 4, 2), (59, .invokestatic 1051, 3), (62, .putfield 9, 3), (65, .aload_n 0, 1), (66, .aload_n 0, 1), (67, .getfield 9, 3), (70, .iload 4, 2), (72, .invokestatic 47, 3), (75, .putfield 15, 3), (78, .return_, 1), (79, .aload_n 0, 1), (80, .iconst 1, 1), (81, .putfield 15, 3), (84, .aload_n 0, 1), (85, .aload_n 3, 1), (86, .iconst 0, 1), (87, .iload 4, 2), (89, .iconst 1, 1), (90, .ishl, 1), (91, .invokestatic 54, 3), (94, .putfield 9, 3), (97, .return_, 1)]
theorem dd_J0_init_db425 : ∀ q ∈ dt_J0_init_db425, decode cJ0_init_db425 q.1 = .ok q.2 := by
  first
  | (refine dw_all ?_; decide +kernel)
  | decide +kernel
noncomputable def dt_J0_coder_7d493 : List (Nat × Instr × Nat) := [(0, .getstatic 38, 3), (3, .ifCond .eq 10, 3), (6, .aload_n 0, 1), (7, .getfield 15, 3), (10, .goto 4, 3), (13, .iconst 1, 1), (14, .ireturn, 1)]
theorem dd_J0_coder_7d493 : ∀ q ∈ dt_J0_coder_7d493, decode cJ0_coder_7d493 q.1 = .ok q.2 := by
  first
  | (refine dw_all ?_; decide +kernel)
  | decide +kernel
noncomputable def dt_J0_checkIndex_df160 : List (Nat × Instr × Nat) := [(0, .iload_n 0, 1), (1, .iload_n 1, 1), (2, .getstatic 1053, 3), (5, .invokestatic 1059, 3), (8, .pop, 1), (9, .return_, 1)]
theorem dd_J0_checkIndex_df160 : ∀ q ∈ dt_J0_checkIndex_df160, decode cJ0_checkIndex_df160 q.1 = .ok q.2 := by
  first
  | (refine dw_all ?_; decide +kernel)
  | decide +kernel
noncomputable def dt_J0_checkBoundsOffCount_cabcc : List (Nat × Instr × Nat) := [(0, .iload_n 0, 1), (1, .iload_n 1, 1), (2, .iload_n 2, 1), (3, .getstatic 1053, 3), (6, .invokestatic 1065, 3), (9, .ireturn, 1)]
theorem dd_J0_checkBoundsOffCount_cabcc : ∀ q ∈ dt_J0_checkBoundsOffCount_cabcc, decode cJ0_checkBoundsOffCount_cabcc q.1 = .ok q.2 := by
  first
  | (refine dw_all ?_; decide +kernel)
  | decide +kernel
noncomputable def dt_J0_checkBoundsBeginEnd_23922 : List (Nat × Instr × Nat) := [(0, .iload_n 0, 1), (1, .iload_n 1, 1), (2, .iload_n 2, 1), (3, .getstatic 1053, 3), (6, .invokestatic 1062, 3), (9, .pop, 1), (10, .return_, 1)]
theorem dd_J0_checkBoundsBeginEnd_23922 : ∀ q ∈ dt_J0_checkBoundsBeginEnd_23922, decode cJ0_checkBoundsBeginEnd_23922 q.1 = .ok q.2 := by
  first
  | (refine dw_all ?_; decide +kernel)
  | decide +kernel
noncomputable def dt_J4_init_da8c8 : List (Nat × Instr × Nat) := [(0, .aload_n 0, 1), (1, .bipush 16, 2), (3, .invokespecial 1, 3), (6, .return_, 1)]
theorem dd_J4_init_da8c8 : ∀ q ∈ dt_J4_init_da8c8, decode cJ4_init_da8c8 q.1 = .ok q.2 := by
  first
  | (refine dw_all ?_; decide +kernel)
  | decide +kernel
noncomputable def dt_J4_append_15ec4 : List (Nat × Instr × Nat) := [(0, .aload_n 0, 1), (1, .aload_n 1, 1), (2, .invokespecial 29, 3), (5, .pop, 1), (6, .aload_n 0, 1), (7, .areturn, 1)]
theorem dd_J4_append_15ec4 : ∀ q ∈ dt_J4_append_15ec4, decode cJ4_append_15ec4 q.1 = .ok q.2 := by
  first
  | (refine dw_all ?_; decide +kernel)
  | decide +kernel
noncomputable def dt_J4_append_cf468 : List (Nat × Instr × Nat) := [(0, .aload_n 0, 1), (1, .iload_n 1, 1), (2, .invokespecial 50, 3), (5, .pop, 1), (6, .aload_n 0, 1), (7, .areturn, 1)]
theorem dd_J4_append_cf468 : ∀ q ∈ dt_J4_append_cf468, decode cJ4_append_cf468 q.1 = .ok q.2 := by
  first
  | (refine dw_all ?_; decide +kernel)
  | decide +kernel
noncomputable def dt_J4_append_bf812 : List (Nat × Instr × Nat) := [(0, .aload_n 0, 1), (1, .iload_n 1, 1), (2, .invokespecial 53, 3), (5, .pop, 1), (6, .aload_n 0, 1), (7, .areturn, 1)]
theorem dd_J4_append_bf812 : ∀ q ∈ dt_J4_append_bf812, decode cJ4_append_bf812 q.1 = .ok q.2 := by
  first
  | (refine dw_all ?_; decide +kernel)
  | decide +kernel
noncomputable def dt_J4_toString_0e30d : List (Nat × Instr × Nat) := [(0, .new 18, 3), (3, .dup, 1), (4, .aload_n 0, 1), (5, .invokespecial 137, 3), (8, .areturn, 1)]
theorem dd_J4_toString_0e30d : ∀ q ∈ dt_J4_toString_0e30d, decode cJ4_toString_0e30d q.1 = .ok q.2 := by
  first
  | (refine dw_all ?_; decide +kernel)
  | decide +kernel
noncomputable def dt_J4_setLength_d00df : List (Nat × Instr × Nat) := [(0, .aload_n 0, 1), (1, .iload_n 1, 1), (2, .invokespecial 333, 3), (5, .return_, 1)]
theorem dd_J4_setLength_d00df : ∀ q ∈ dt_J4_setLength_d00df, decode cJ4_setLength_d00df q.1 = .ok q.2 := by
  first
  | (refine dw_all ?_; decide +kernel)
  | decide +kernel
noncomputable def dt_J4_length_8abf5 : List (Nat × Instr × Nat) := [(0, .aload_n 0, 1), (1, .invokespecial 343, 3), (4, .ireturn, 1)]
theorem dd_J4_length_8abf5 : ∀ q ∈ dt_J4_length_8abf5, decode cJ4_length_8abf5 q.1 = .ok q.2 := by
  first
  | (refine dw_all ?_; decide +kernel)
  | decide +kernel
noncomputable def dt_Jx7c733_init_d00df : List (Nat × Instr × Nat) := [(0, .aload_n 0, 1), (1, .new 10, 3), (4, .dup, 1), (5, .invokespecial 12, 3), (8, .ldc 13, 2), (10, .invokevirtual 15, 3), (13, .iload_n 1, 1), (14, .invokevirtual 19, 3), (17, .invokevirtual 22, 3), (20, .invokespecial 7, 3), (23, .return_, 1)]
theorem dd_Jx7c733_init_d00df : ∀ q ∈ dt_Jx7c733_init_d00df, decode cJx7c733_init_d00df q.1 = .ok q.2 := by
  first
  | (refine dw_all ?_; decide +kernel)
  | decide +kernel
noncomputable def dt_J1_canEncode_fc78d : List (Nat × Instr × Nat) := [(0, .iload_n 0, 1), (1, .sipush 255, 3), (4, .if_icmp .gt 7, 3), (7, .iconst 1, 1), (8, .goto 4, 3), (11, .iconst 0, 1), (12, .ireturn, 1)]
theorem dd_J1_canEncode_fc78d : ∀ q ∈ dt_J1_canEncode_fc78d, decode cJ1_canEncode_fc78d q.1 = .ok q.2 := by
  first
  | (refine dw_all ?_; decide +kernel)
  | decide +kernel
noncomputable def dt_J1_equals_b5fdf : List (Nat × Instr × Nat) := [(0, .aload_n 0, 1), (1, .arraylength, 1), (2, .aload_n 1, 1), (3, .arraylength, 1), (4, .if_icmp .ne 30, 3), (7, .iconst 0, 1), (8, .istore_n 2, 1), (9, .iload_n 2, 1), (10, .aload_n 0, 1), (11, .arraylength, 1), (12, .if_icmp .ge 20, 3), (15, .aload_n 0, 1), (16, .iload_n 2, 1), (17, .baload, 1), (18, .aload_n 1, 1), (19, .iload_n 2, 1), (20, .baload, 1), (21, .if_icmp .eq 5, 3), (24, .iconst 0, 1), (25, .ireturn, 1), (26, .iinc 2 1, 3), (29, .goto (-20), 3), (32, .iconst 1, 1), (33, .ireturn, 1), (34, .iconst 0, 1), (35, .ireturn, 1)]
theorem dd_J1_equals_b5fdf : ∀ q ∈ dt_J1_equals_b5fdf, decode cJ1_equals_b5fdf q.1 = .ok q.2 := by
  first
  | (refine dw_all ?_; decide +kernel)
  | decide +kernel
noncomputable def dt_J1_fillNull_b72d1 : List (Nat × Instr × Nat) := [(0, .aload_n 0, 1), (1, .iload_n 1, 1), (2, .iload_n 2, 1), (3, .iconst 0, 1), (4, .invokestatic 236, 3), (7, .return_, 1)]
theorem dd_J1_fillNull_b72d1 : ∀ q ∈ dt_J1_fillNull_b72d1, decode cJ1_fillNull_b72d1 q.1 = .ok q.2 := by
  first
  | (refine dw_all ?_; decide +kernel)
  | decide +kernel
noncomputable def dt_J1_inflate_0e8fd : List (Nat × Instr × Nat) := [(0, .aload_n 0, 1), (1, .iload_n 1, 1), (2, .aload_n 2, 1), (3, .iload_n 3, 1), (4, .iload 4, 2), (6, .invokestatic 240, 3), (9, .return_, 1)]
theorem dd_J1_inflate_0e8fd : ∀ q ∈ dt_J1_inflate_0e8fd, decode cJ1_inflate_0e8fd q.1 = .ok q.2 := by
  first
  | (refine dw_all ?_; decide +kernel)
  | decide +kernel
noncomputable def dt_J2_newBytesFor_77867 : List (Nat × Instr × Nat) := [(0, .iload_n 0, 1), (1, .invokestatic 11, 3), (4, .newarray .byte, 2), (6, .areturn, 1)]
theorem dd_J2_newBytesFor_77867 : ∀ q ∈ dt_J2_newBytesFor_77867, decode cJ2_newBytesFor_77867 q.1 = .ok q.2 := by
  first
  | (refine dw_all ?_; decide +kernel)
  | decide +kernel
noncomputable def dt_J2_newBytesLength_0f7a4 : List (Nat × Instr × Nat) := [(0, .iload_n 0, 1), (1, .ifCond .ge 11, 3), (4, .new 17, 3), (7, .dup, 1), (8, .invokespecial 19, 3), (11, .athrow, 1), (12, .iload_n 0, 1), (13, .ldc 20, 2), (15, .if_icmp .lt 40, 3), (18, .new 21, 3), (21, .dup, 1), (22, .new 23, 3), (25, .dup, 1), (26, .invokespecial 25, 3), (29, .ldc 26, 2), (31, .invokevirtual 28, 3), (34, .iload_n 0, 1), (35, .invokevirtual 32, 3), (38, .ldc 35, 2), (40, .invokevirtual 28, 3), (43, .ldc 20, 2), (45, .invokevirtual 32, 3), (48, .invokevirtual 37, 3), (51, .invokespecial 41, 3), (54, .athrow, 1), (55, .iload_n 0, 1), (56, .iconst 1, 1), (57, .ishl, 1), (58, .ireturn, 1)]
theorem dd_J2_newBytesLength_0f7a4 : ∀ q ∈ dt_J2_newBytesLength_0f7a4, decode cJ2_newBytesLength_0f7a4 q.1 = .ok q.2 := by
  first
  | (refine dw_all ?_; decide +kernel)
  | decide +kernel
noncomputable def dt_J2_putChar_b72d1 : List (Nat × Instr × Nat) := [(0, .getstatic 44, 3), (3, .ifCond .ne 25, 3), (6, .iload_n 1, 1), (7, .ifCond .lt 11, 3), (10, .iload_n 1, 1), (11, .aload_n 0, 1), (12, .invokestatic 48, 3), (15, .if_icmp .lt 13, 3), (18, .new 52, 3), (21, .dup, 1), (22, .ldc 54, 2), (24, .invokespecial 56, 3), (27, .athrow, 1), (28, .iload_n 1, 1), (29, .iconst 1, 1), (30, .ishl, 1), (31, .istore_n 1, 1), (32, .aload_n 0, 1), (33, .iload_n 1, 1), (34, .iinc 1 1, 3), (37, .iload_n 2, 1), (38, .getstatic 59, 3), (41, .ishr, 1), (42, .i2b, 1), (43, .bastore, 1), (44, .aload_n 0, 1), (45, .iload_n 1, 1), (46, .iload_n 2, 1), (47, .getstatic 63, 3), (50, .ishr, 1), (51, .i2b, 1), (52, .bastore, 1), (53, .return_, 1)]
theorem dd_J2_putChar_b72d1 : ∀ q ∈ dt_J2_putChar_b72d1, decode cJ2_putChar_b72d1 q.1 = .ok q.2 := by
  first
  | (refine dw_all ?_; decide +kernel)
  | decide +kernel
noncomputable def dt_J2_getChar_3b067 : List (Nat × Instr × Nat) := [(0, .getstatic 44, 3), (3, .ifCond .ne 25, 3), (6, .iload_n 1, 1), (7, .ifCond .lt 11, 3), (10, .iload_n 1, 1), (11, .aload_n 0, 1), (12, .invokestatic 48, 3), (15, .if_icmp .lt 13, 3), (18, .new 52, 3), (21, .dup, 1), (22, .ldc 54, 2), (24, .invokespecial 56, 3), (27, .athrow, 1), (28, .iload_n 1, 1), (29, .iconst 1, 1), (30, .ishl, 1), (31, .istore_n 1, 1), (32, .aload_n 0, 1), (33, .iload_n 1, 1), (34, .iinc 1 1, 3), (37, .baload, 1), (38, .sipush 255, 3), (41, .iand, 1), (42, .getstatic 59, 3), (45, .ishl, 1), (46, .aload_n 0, 1), (47, .iload_n 1, 1), (48, .baload, 1), (49, .sipush 255, 3), (52, .iand, 1), (53, .getstatic 63, 3), (56, .ishl, 1), (57, .ior, 1), (58, .i2c, 1), (59, .ireturn, 1)]
theorem dd_J2_getChar_3b067 : ∀ q ∈ dt_J2_getChar_3b067, decode cJ2_getChar_3b067 q.1 = .ok q.2 := by
  first
  | (refine dw_all ?_; decide +kernel)
  | decide +kernel
noncomputable def dt_J2_length_9d52b : List (Nat × Instr × Nat) := [(0, .aload_n 0, 1), (1, .arraylength, 1), (2, .iconst 1, 1), (3, .ishr, 1), (4, .ireturn, 1)]
theorem dd_J2_length_9d52b : ∀ q ∈ dt_J2_length_9d52b, decode cJ2_length_9d52b q.1 = .ok q.2 := by
  first
  | (refine dw_all ?_; decide +kernel)
  | decide +kernel
noncomputable def dt_J2_coderFromArrayLen_85cad : List (Nat × Instr × Nat) := [(0, .iload_n 1, 1), (1, .aload_n 0, 1), (2, .arraylength, 1), (3, .isub, 1), (4, .bipush 31, 2), (6, .iushr, 1), (7, .i2b, 1), (8, .ireturn, 1)]
theorem dd_J2_coderFromArrayLen_85cad : ∀ q ∈ dt_J2_coderFromArrayLen_85cad, decode cJ2_coderFromArrayLen_85cad q.1 = .ok q.2 := by
  first
  | (refine dw_all ?_; decide +kernel)
  | decide +kernel
noncomputable def dt_J2_compress_39247 : List (Nat × Instr × Nat) := [(0, .iload_n 2, 1), (1, .newarray .byte, 2), (3, .astore_n 3, 1), (4, .aload_n 0, 1), (5, .iload_n 1, 1), (6, .aload_n 3, 1), (7, .iconst 0, 1), (8, .iload_n 2, 1), (9, .invokestatic 123, 3), (12, .istore 4, 2), (14, .iload 4, 2), (16, .iload_n 2, 1), (17, .if_icmp .eq 47, 3), (20, .aload_n 0, 1), (21, .iload_n 1, 1), (22, .iconst 1, 1), (23, .ishl, 1), (24, .iload_n 1, 1), (25, .iload_n 2, 1), (26, .iadd, 1), (27, .invokestatic 11, 3), (30, .invokestatic 126, 3), (33, .astore 5, 2), (35, .aload 5, 2), (37, .iload 4, 2), (39, .invokestatic 71, 3), (42, .sipush 255, 3), (45, .if_icmp .gt 16, 3), (48, .aload 5, 2), (50, .iconst 0, 1), (51, .aload_n 3, 1), (52, .iconst 0, 1), (53, .iload_n 2, 1), (54, .invokestatic 123, 3), (57, .iload_n 2, 1), (58, .if_icmp .eq 6, 3), (61, .aload 5, 2), (63, .areturn, 1), (64, .aload_n 3, 1), (65, .areturn, 1)]
theorem dd_J2_compress_39247 : ∀ q ∈ dt_J2_compress_39247, decode cJ2_compress_39247 q.1 = .ok q.2 := by
  first
  | (refine dw_all ?_; decide +kernel)
  | decide +kernel
noncomputable def dt_J2_compress_5af95 : List (Nat × Instr × Nat) := [(0, .iload_n 1, 1), (1, .iload 4, 2), (3, .aload_n 0, 1), (4, .invokestatic 173, 3), (7, .iconst 0, 1), (8, .istore 5, 2), (10, .iload 5, 2), (12, .iload 4, 2), (14, .if_icmp .ge 39, 3), (17, .aload_n 0, 1), (18, .iload_n 1, 1), (19, .invokestatic 71, 3), (22, .istore 6, 2), (24, .iload 6, 2), (26, .sipush 255, 3), (29, .if_icmp .le 6, 3), (32, .iload 5, 2), (34, .ireturn, 1), (35, .aload_n 2, 1), (36, .iload_n 3, 1), (37, .iload 6, 2), (39, .i2b, 1), (40, .bastore, 1), (41, .iinc 1 1, 3), (44, .iinc 3 1, 3), (47, .iinc 5 1, 3), (50, .goto (-40), 3), (53, .iload 4, 2), (55, .ireturn, 1)]
theorem dd_J2_compress_5af95 : ∀ q ∈ dt_J2_compress_5af95, decode cJ2_compress_5af95 q.1 = .ok q.2 := by
  first
  | (refine dw_all ?_; decide +kernel)
  | decide +kernel
noncomputable def dt_J2_fillNull_b72d1 : List (Nat × Instr × Nat) := [(0, .aload_n 0, 1), (1, .iload_n 1, 1), (2, .iconst 1, 1), (3, .ishl, 1), (4, .iload_n 2, 1), (5, .iconst 1, 1), (6, .ishl, 1), (7, .iconst 0, 1), (8, .invokestatic 380, 3), (11, .return_, 1)]
theorem dd_J2_fillNull_b72d1 : ∀ q ∈ dt_J2_fillNull_b72d1, decode cJ2_fillNull_b72d1 q.1 = .ok q.2 := by
  first
  | (refine dw_all ?_; decide +kernel)
  | decide +kernel
noncomputable def dt_J2_putCharSB_b72d1 : List (Nat × Instr × Nat) := [(0, .iload_n 1, 1), (1, .aload_n 0, 1), (2, .invokestatic 67, 3), (5, .aload_n 0, 1), (6, .iload_n 1, 1), (7, .iload_n 2, 1), (8, .invokestatic 111, 3), (11, .return_, 1)]
theorem dd_J2_putCharSB_b72d1 : ∀ q ∈ dt_J2_putCharSB_b72d1, decode cJ2_putCharSB_b72d1 q.1 = .ok q.2 := by
  first
  | (refine dw_all ?_; decide +kernel)
  | decide +kernel
noncomputable def dt_J2_getChars_46870 : List (Nat × Instr × Nat) := [(0, .iload_n 1, 1), (1, .iload_n 2, 1), (2, .aload_n 3, 1), (3, .invokestatic 96, 3), (6, .iload_n 0, 1), (7, .iload_n 2, 1), (8, .aload_n 3, 1), (9, .invokestatic 393, 3), (12, .istore 4, 2), (14, .getstatic 44, 3), (17, .ifCond .ne 17, 3), (20, .iload_n 1, 1), (21, .iload 4, 2), (23, .if_icmp .eq 11, 3), (26, .new 52, 3), (29, .dup, 1), (30, .invokespecial 66, 3), (33, .athrow, 1), (34, .iload 4, 2), (36, .ireturn, 1)]
theorem dd_J2_getChars_46870 : ∀ q ∈ dt_J2_getChars_46870, decode cJ2_getChars_46870 q.1 = .ok q.2 := by
  first
  | (refine dw_all ?_; decide +kernel)
  | decide +kernel
noncomputable def dt_J2_putCharsAt_cd4e5 : List (Nat × Instr × Nat) := [(0, .iload_n 1, 1), (1, .iconst 4, 1), (2, .iadd, 1), (3, .istore 6, 2), (5, .iload_n 1, 1), (6, .iload 6, 2), (8, .aload_n 0, 1), (9, .invokestatic 96, 3), (12, .aload_n 0, 1), (13, .iload_n 1, 1), (14, .iinc 1 1, 3), (17, .iload_n 2, 1), (18, .invokestatic 111, 3), (21, .aload_n 0, 1), (22, .iload_n 1, 1), (23, .iinc 1 1, 3), (26, .iload_n 3, 1), (27, .invokestatic 111, 3), (30, .aload_n 0, 1), (31, .iload_n 1, 1), (32, .iinc 1 1, 3), (35, .iload 4, 2), (37, .invokestatic 111, 3), (40, .aload_n 0, 1), (41, .iload_n 1, 1), (42, .iinc 1 1, 3), (45, .iload 5, 2), (47, .invokestatic 111, 3), (50, .getstatic 44, 3), (53, .ifCond .ne 17, 3), (56, .iload_n 1, 1), (57, .iload 6, 2), (59, .if_icmp .eq 11, 3), (62, .new 52, 3), (65, .dup, 1), (66, .invokespecial 66, 3), (69, .athrow, 1), (70, .iload 6, 2), (72, .ireturn, 1)]
theorem dd_J2_putCharsAt_cd4e5 : ∀ q ∈ dt_J2_putCharsAt_cd4e5, decode cJ2_putCharsAt_cd4e5 q.1 = .ok q.2 := by
  first
  | (refine dw_all ?_; decide +kernel)
  | decide +kernel
noncomputable def dt_J2_inflate_0e8fd : List (Nat × Instr × Nat) := [(0, .iload_n 3, 1), (1, .iload 4, 2), (3, .aload_n 2, 1), (4, .invokestatic 173, 3), (7, .iconst 0, 1), (8, .istore 5, 2), (10, .iload 5, 2), (12, .iload 4, 2), (14, .if_icmp .ge 27, 3), (17, .aload_n 2, 1), (18, .iload_n 3, 1), (19, .iinc 3 1, 3), (22, .aload_n 0, 1), (23, .iload_n 1, 1), (24, .iinc 1 1, 3), (27, .baload, 1), (28, .sipush 255, 3), (31, .iand, 1), (32, .invokestatic 111, 3), (35, .iinc 5 1, 3), (38, .goto (-28), 3), (41, .return_, 1)]
theorem dd_J2_inflate_0e8fd : ∀ q ∈ dt_J2_inflate_0e8fd, decode cJ2_inflate_0e8fd q.1 = .ok q.2 := by
  first
  | (refine dw_all ?_; decide +kernel)
  | decide +kernel
noncomputable def dt_J2_getChars_ba4f3 : List (Nat × Instr × Nat) := [(0, .iload_n 1, 1), (1, .istore 5, 2), (3, .iload_n 0, 1), (4, .ifCond .ge 7, 3), (7, .iconst 1, 1), (8, .goto 4, 3), (11, .iconst 0, 1), (12, .istore 6, 2), (14, .iload 6, 2), (16, .ifCond .ne 6, 3), (19, .iload_n 0, 1), (20, .ineg, 1), (21, .istore_n 0, 1), (22, .iload_n 0, 1), (23, .bipush (-100), 2), (25, .if_icmp .gt 51, 3), (28, .iload_n 0, 1), (29, .bipush 100, 2), (31, .idiv, 1), (32, .istore_n 3, 1), (33, .iload_n 3, 1), (34, .bipush 100, 2), (36, .imul, 1), (37, .iload_n 0, 1), (38, .isub, 1), (39, .istore 4, 2), (41, .iload_n 3, 1), (42, .istore_n 0, 1), (43, .aload_n 2, 1), (44, .iinc 5 (-1), 3), (47, .iload 5, 2), (49, .getstatic 403, 3), (52, .iload 4, 2), (54, .baload, 1), (55, .invokestatic 111, 3), (58, .aload_n 2, 1), (59, .iinc 5 (-1), 3), (62, .iload 5, 2), (64, .getstatic 407, 3), (67, .iload 4, 2), (69, .baload, 1), (70, .invokestatic 111, 3), (73, .goto (-51), 3), (76, .aload_n 2, 1), (77, .iinc 5 (-1), 3), (80, .iload 5, 2), (82, .getstatic 403, 3), (85, .iload_n 0, 1), (86, .ineg, 1), (87, .baload, 1), (88, .invokestatic 111, 3), (91, .iload_n 0, 1), (92, .bipush (-9), 2), (94, .if_icmp .ge 18, 3), (97, .aload_n 2, 1), (98, .iinc 5 (-1), 3), (101, .iload 5, 2), (103, .getstatic 407, 3), (106, .iload_n 0, 1), (107, .ineg, 1), (108, .baload, 1), (109, .invokestatic 111, 3), (112, .iload 6, 2), (114, .ifCond .eq 14, 3), (117, .aload_n 2, 1), (118, .iinc 5 (-1), 3), (121, .iload 5, 2), (123, .bipush 45, 2), (125, .invokestatic 111, 3), (128, .iload 5, 2), (130, .ireturn, 1)]
theorem dd_J2_getChars_ba4f3 : ∀ q ∈ dt_J2_getChars_ba4f3, decode cJ2_getChars_ba4f3 q.1 = .ok q.2 := by
  first
  | (refine dw_all ?_; decide +kernel)
  | decide +kernel
noncomputable def dt_J2_checkIndex_2214a : List (Nat × Instr × Nat) := [(0, .iload_n 0, 1), (1, .aload_n 1, 1), (2, .invokestatic 48, 3), (5, .invokestatic 414, 3), (8, .return_, 1)]
theorem dd_J2_checkIndex_2214a : ∀ q ∈ dt_J2_checkIndex_2214a, decode cJ2_checkIndex_2214a q.1 = .ok q.2 := by
  first
  | (refine dw_all ?_; decide +kernel)
  | decide +kernel
noncomputable def dt_J2_checkBoundsBeginEnd_d044e : List (Nat × Instr × Nat) := [(0, .iload_n 0, 1), (1, .iload_n 1, 1), (2, .aload_n 2, 1), (3, .invokestatic 48, 3), (6, .invokestatic 241, 3), (9, .return_, 1)]
theorem dd_J2_checkBoundsBeginEnd_d044e : ∀ q ∈ dt_J2_checkBoundsBeginEnd_d044e, decode cJ2_checkBoundsBeginEnd_d044e q.1 = .ok q.2 := by
  first
  | (refine dw_all ?_; decide +kernel)
  | decide +kernel
noncomputable def dt_J2_checkBoundsOffCount_d044e : List (Nat × Instr × Nat) := [(0, .iload_n 0, 1), (1, .iload_n 1, 1), (2, .aload_n 2, 1), (3, .invokestatic 48, 3), (6, .invokestatic 419, 3), (9, .pop, 1), (10, .return_, 1)]
theorem dd_J2_checkBoundsOffCount_d044e : ∀ q ∈ dt_J2_checkBoundsOffCount_d044e, decode cJ2_checkBoundsOffCount_d044e q.1 = .ok q.2 := by
  first
  | (refine dw_all ?_; decide +kernel)
  | decide +kernel
noncomputable def dt_Jxa1e45_init_da8c8 : List (Nat × Instr × Nat) := [(0, .aload_n 0, 1), (1, .invokespecial 1, 3), (4, .return_, 1)]
theorem dd_Jxa1e45_init_da8c8 : ∀ q ∈ dt_Jxa1e45_init_da8c8, decode cJxa1e45_init_da8c8 q.1 = .ok q.2 := by
  first
  | (refine dw_all ?_; decide +kernel)
  | decide +kernel
noncomputable def dt_Jxc12de_init_da8c8 : List (Nat × Instr × Nat) := [(0, .aload_n 0, 1), (1, .invokespecial 1, 3), (4, .aload_n 0, 1), (5, .iconst 0, 1), (6, .putfield 7, 3), (9, .return_, 1)]
theorem dd_Jxc12de_init_da8c8 : ∀ q ∈ dt_Jxc12de_init_da8c8, decode cJxc12de_init_da8c8 q.1 = .ok q.2 := by
  first
  | (refine dw_all ?_; decide +kernel)
  | decide +kernel
noncomputable def dt_Jx35411_init_45d68 : List (Nat × Instr × Nat) := [(0, .aload_n 0, 1), (1, .aload_n 1, 1), (2, .putfield 1, 3), (5, .aload_n 0, 1), (6, .invokespecial 7, 3), (9, .aload_n 0, 1), (10, .iconst (-1), 1), (11, .putfield 13, 3), (14, .aload_n 0, 1), (15, .aload_n 0, 1), (16, .getfield 1, 3), (19, .getfield 17, 3), (22, .putfield 22, 3), (25, .return_, 1)]
theorem dd_Jx35411_init_45d68 : ∀ q ∈ dt_Jx35411_init_45d68, decode cJx35411_init_45d68 q.1 = .ok q.2 := by
  first
  | (refine dw_all ?_; decide +kernel)
  | decide +kernel
noncomputable def dt_Jx35411_hasNext_aae02 : List (Nat × Instr × Nat) := [(0, .aload_n 0, 1), (1, .getfield 25, 3), (4, .aload_n 0, 1), (5, .getfield 1, 3), (8, .getfield 28, 3), (11, .if_icmp .eq 7, 3), (14, .iconst 1, 1), (15, .goto 4, 3), (18, .iconst 0, 1), (19, .ireturn, 1)]
theorem dd_Jx35411_hasNext_aae02 : ∀ q ∈ dt_Jx35411_hasNext_aae02, decode cJx35411_hasNext_aae02 q.1 = .ok q.2 := by
  first
  | (refine dw_all ?_; decide +kernel)
  | decide +kernel
noncomputable def dt_Jx35411_next_0502b : List (Nat × Instr × Nat) := [(0, .aload_n 0, 1), (1, .invokevirtual 31, 3), (4, .aload_n 0, 1), (5, .getfield 25, 3), (8, .istore_n 1, 1), (9, .iload_n 1, 1), (10, .aload_n 0, 1), (11, .getfield 1, 3), (14, .getfield 28, 3), (17, .if_icmp .lt 11, 3), (20, .new 34, 3), (23, .dup, 1), (24, .invokespecial 36, 3), (27, .athrow, 1), (28, .aload_n 0, 1), (29, .getfield 1, 3), (32, .getfield 37, 3), (35, .astore_n 2, 1), (36, .iload_n 1, 1), (37, .aload_n 2, 1), (38, .arraylength, 1), (39, .if_icmp .lt 11, 3), (42, .new 41, 3), (45, .dup, 1), (46, .invokespecial 43, 3), (49, .athrow, 1), (50, .aload_n 0, 1), (51, .iload_n 1, 1), (52, .iconst 1, 1), (53, .iadd, 1), (54, .putfield 25, 3), (57, .aload_n 2, 1), (58, .aload_n 0, 1), (59, .iload_n 1, 1), (60, .dup_x1, 1), (61, .putfield 13, 3), (64, .aaload, 1), (65, .areturn, 1)]
theorem dd_Jx35411_next_0502b : ∀ q ∈ dt_Jx35411_next_0502b, decode cJx35411_next_0502b q.1 = .ok q.2 := by
  first
  | (refine dw_all ?_; decide +kernel)
  | decide +kernel
noncomputable def dt_Jx35411_checkForComodification_da8c8 : List (Nat × Instr × Nat) := [(0, .aload_n 0, 1), (1, .getfield 1, 3), (4, .getfield 17, 3), (7, .aload_n 0, 1), (8, .getfield 22, 3), (11, .if_icmp .eq 11, 3), (14, .new 41, 3), (17, .dup, 1), (18, .invokespecial 43, 3), (21, .athrow, 1), (22, .return_, 1)]
theorem dd_Jx35411_checkForComodification_da8c8 : ∀ q ∈ dt_Jx35411_checkForComodification_da8c8, decode cJx35411_checkForComodification_da8c8 q.1 = .ok q.2 := by
  first
  | (refine dw_all ?_; decide +kernel)
  | decide +kernel
noncomputable def dt_Jx4a65c_init_da8c8 : List (Nat × Instr × Nat) := [(0, .aload_n 0, 1), (1, .invokespecial 1, 3), (4, .aload_n 0, 1), (5, .getstatic 39, 3), (8, .putfield 9, 3), (11, .return_, 1)]
theorem dd_Jx4a65c_init_da8c8 : ∀ q ∈ dt_Jx4a65c_init_da8c8, decode cJx4a65c_init_da8c8 q.1 = .ok q.2 := by
  first
  | (refine dw_all ?_; decide +kernel)
  | decide +kernel
noncomputable def dt_Jx4a65c_grow_92f84 : List (Nat × Instr × Nat) := [(0, .aload_n 0, 1), (1, .getfield 9, 3), (4, .arraylength, 1), (5, .istore_n 2, 1), (6, .iload_n 2, 1), (7, .ifCond .gt 13, 3), (10, .aload_n 0, 1), (11, .getfield 9, 3), (14, .getstatic 39, 3), (17, .if_acmp .eq 28, 3), (20, .iload_n 2, 1), (21, .iload_n 1, 1), (22, .iload_n 2, 1), (23, .isub, 1), (24, .iload_n 2, 1), (25, .iconst 1, 1), (26, .ishr, 1), (27, .invokestatic 73, 3), (30, .istore_n 3, 1), (31, .aload_n 0, 1), (32, .aload_n 0, 1), (33, .getfield 9, 3), (36, .iload_n 3, 1), (37, .invokestatic 66, 3), (40, .dup_x1, 1), (41, .putfield 9, 3), (44, .areturn, 1), (45, .aload_n 0, 1), (46, .bipush 10, 2), (48, .iload_n 1, 1), (49, .invokestatic 79, 3), (52, .anewarray 7, 3), (55, .dup_x1, 1), (56, .putfield 9, 3), (59, .areturn, 1)]
theorem dd_Jx4a65c_grow_92f84 : ∀ q ∈ dt_Jx4a65c_grow_92f84, decode cJx4a65c_grow_92f84 q.1 = .ok q.2 := by
  first
  | (refine dw_all ?_; decide +kernel)
  | decide +kernel
noncomputable def dt_Jx4a65c_grow_d5877 : List (Nat × Instr × Nat) := [(0, .aload_n 0, 1), (1, .aload_n 0, 1), (2, .getfield 48, 3), (5, .iconst 1, 1), (6, .iadd, 1), (7, .invokevirtual 69, 3), (10, .areturn, 1)]
theorem dd_Jx4a65c_grow_d5877 : ∀ q ∈ dt_Jx4a65c_grow_d5877, decode cJx4a65c_grow_d5877 q.1 = .ok q.2 := by
  first
  | (refine dw_all ?_; decide +kernel)
  | decide +kernel
noncomputable def dt_Jx4a65c_size_8abf5 : List (Nat × Instr × Nat) := [(0, .aload_n 0, 1), (1, .getfield 48, 3), (4, .ireturn, 1)]
theorem dd_Jx4a65c_size_8abf5 : ∀ q ∈ dt_Jx4a65c_size_8abf5, decode cJx4a65c_size_8abf5 q.1 = .ok q.2 := by
  first
  | (refine dw_all ?_; decide +kernel)
  | decide +kernel
noncomputable def dt_Jx4a65c_isEmpty_aae02 : List (Nat × Instr × Nat) := [(0, .aload_n 0, 1), (1, .getfield 48, 3), (4, .ifCond .ne 7, 3), (7, .iconst 1, 1), (8, .goto 4, 3), (11, .iconst 0, 1), (12, .ireturn, 1)]
theorem dd_Jx4a65c_isEmpty_aae02 : ∀ q ∈ dt_Jx4a65c_isEmpty_aae02, decode cJx4a65c_isEmpty_aae02 q.1 = .ok q.2 := by
  first
  | (refine dw_all ?_; decide +kernel)
  | decide +kernel
noncomputable def dt_Jx4a65c_elementData_915e3 : List (Nat × Instr × Nat) := [(0, .aload_n 0, 1), (1, .getfield 9, 3), (4, .iload_n 1, 1), (5, .aaload, 1), (6, .areturn, 1)]
theorem dd_Jx4a65c_elementData_915e3 : ∀ q ∈ dt_Jx4a65c_elementData_915e3, decode cJx4a65c_elementData_915e3 q.1 = .ok q.2 := by
  first
  | (refine dw_all ?_; decide +kernel)
  | decide +kernel
noncomputable def dt_Jx4a65c_get_915e3 : List (Nat × Instr × Nat) := [(0, .iload_n 1, 1), (1, .aload_n 0, 1), (2, .getfield 48, 3), (5, .invokestatic 118, 3), (8, .pop, 1), (9, .aload_n 0, 1), (10, .iload_n 1, 1), (11, .invokevirtual 123, 3), (14, .areturn, 1)]
theorem dd_Jx4a65c_get_915e3 : ∀ q ∈ dt_Jx4a65c_get_915e3, decode cJx4a65c_get_915e3 q.1 = .ok q.2 := by
  first
  | (refine dw_all ?_; decide +kernel)
  | decide +kernel
noncomputable def dt_Jx4a65c_set_bcc79 : List (Nat × Instr × Nat) := [(0, .iload_n 1, 1), (1, .aload_n 0, 1), (2, .getfield 48, 3), (5, .invokestatic 118, 3), (8, .pop, 1), (9, .aload_n 0, 1), (10, .iload_n 1, 1), (11, .invokevirtual 123, 3), (14, .astore_n 3, 1), (15, .aload_n 0, 1), (16, .getfield 9, 3), (19, .iload_n 1, 1), (20, .aload_n 2, 1), (21, .aastore, 1), (22, .aload_n 3, 1), (23, .areturn, 1)]
theorem dd_Jx4a65c_set_bcc79 : ∀ q ∈ dt_Jx4a65c_set_bcc79, decode cJx4a65c_set_bcc79 q.1 = .ok q.2 := by
  first
  | (refine dw_all ?_; decide +kernel)
  | decide +kernel
noncomputable def dt_Jx4a65c_add_72be8 : List (Nat × Instr × Nat) := [(0, .iload_n 3, 1), (1, .aload_n 2, 1), (2, .arraylength, 1), (3, .if_icmp .ne 8, 3), (6, .aload_n 0, 1), (7, .invokevirtual 129, 3), (10, .astore_n 2, 1), (11, .aload_n 2, 1), (12, .iload_n 3, 1), (13, .aload_n 1, 1), (14, .aastore, 1), (15, .aload_n 0, 1), (16, .iload_n 3, 1), (17, .iconst 1, 1), (18, .iadd, 1), (19, .putfield 48, 3), (22, .return_, 1)]
theorem dd_Jx4a65c_add_72be8 : ∀ q ∈ dt_Jx4a65c_add_72be8, decode cJx4a65c_add_72be8 q.1 = .ok q.2 := by
  first
  | (refine dw_all ?_; decide +kernel)
  | decide +kernel
noncomputable def dt_Jx4a65c_add_9ea2d : List (Nat × Instr × Nat) := [(0, .aload_n 0, 1), (1, .dup, 1), (2, .getfield 63, 3), (5, .iconst 1, 1), (6, .iadd, 1), (7, .putfield 63, 3), (10, .aload_n 0, 1), (11, .aload_n 1, 1), (12, .aload_n 0, 1), (13, .getfield 9, 3), (16, .aload_n 0, 1), (17, .getfield 48, 3), (20, .invokevirtual 131, 3), (23, .iconst 1, 1), (24, .ireturn, 1)]
theorem dd_Jx4a65c_add_9ea2d : ∀ q ∈ dt_Jx4a65c_add_9ea2d, decode cJx4a65c_add_9ea2d q.1 = .ok q.2 := by
  first
  | (refine dw_all ?_; decide +kernel)
  | decide +kernel
noncomputable def dt_Jx4a65c_iterator_32c93 : List (Nat × Instr × Nat) := [(0, .new 267, 3), (3, .dup, 1), (4, .aload_n 0, 1), (5, .invokespecial 269, 3), (8, .areturn, 1)]
theorem dd_Jx4a65c_iterator_32c93 : ∀ q ∈ dt_Jx4a65c_iterator_32c93, decode cJx4a65c_iterator_32c93 q.1 = .ok q.2 := by
  first
  | (refine dw_all ?_; decide +kernel)
  | decide +kernel
noncomputable def dt_J7_rangeCheck_23922 : List (Nat × Instr × Nat) := [(0, .iload_n 1, 1), (1, .iload_n 2, 1), (2, .if_icmp .le 44, 3), (5, .new 43, 3), (8, .dup, 1), (9, .new 45, 3), (12, .dup, 1), (13, .invokespecial 47, 3), (16, .ldc 48, 2), (18, .invokevirtual 50, 3), (21, .iload_n 1, 1), (22, .invokevirtual 54, 3), (25, .ldc 57, 2), (27, .invokevirtual 50, 3), (30, .iload_n 2, 1), (31, .invokevirtual 54, 3), (34, .ldc 59, 2), (36, .invokevirtual 50, 3), (39, .invokevirtual 61, 3), (42, .invokespecial 65, 3), (45, .athrow, 1), (46, .iload_n 1, 1), (47, .ifCond .ge 12, 3), (50, .new 68, 3), (53, .dup, 1), (54, .iload_n 1, 1), (55, .invokespecial 70, 3), (58, .athrow, 1), (59, .iload_n 2, 1), (60, .iload_n 0, 1), (61, .if_icmp .le 12, 3), (64, .new 68, 3), (67, .dup, 1), (68, .iload_n 2, 1), (69, .invokespecial 70, 3), (72, .athrow, 1), (73, .return_, 1)]
theorem dd_J7_rangeCheck_23922 : ∀ q ∈ dt_J7_rangeCheck_23922, decode cJ7_rangeCheck_23922 q.1 = .ok q.2 := by
  first
  | (refine dw_all ?_; decide +kernel)
  | decide +kernel
noncomputable def dt_J7_fill_eb02e : List (Nat × Instr × Nat) := [(0, .aload_n 0, 1), (1, .arraylength, 1), (2, .iload_n 1, 1), (3, .iload_n 2, 1), (4, .invokestatic 13, 3), (7, .iload_n 1, 1), (8, .istore 4, 2), (10, .iload 4, 2), (12, .iload_n 2, 1), (13, .if_icmp .ge 14, 3), (16, .aload_n 0, 1), (17, .iload 4, 2), (19, .iload_n 3, 1), (20, .bastore, 1), (21, .iinc 4 1, 3), (24, .goto (-14), 3), (27, .return_, 1)]
theorem dd_J7_fill_eb02e : ∀ q ∈ dt_J7_fill_eb02e, decode cJ7_fill_eb02e q.1 = .ok q.2 := by
  first
  | (refine dw_all ?_; decide +kernel)
  | decide +kernel
noncomputable def dt_J7_copyOf_1904c : List (Nat × Instr × Nat) := [(0, .aload_n 0, 1), (1, .iload_n 1, 1), (2, .aload_n 0, 1), (3, .invokevirtual 86, 3), (6, .invokestatic 300, 3), (9, .areturn, 1)]
theorem dd_J7_copyOf_1904c : ∀ q ∈ dt_J7_copyOf_1904c, decode cJ7_copyOf_1904c q.1 = .ok q.2 := by
  first
  | (refine dw_all ?_; decide +kernel)
  | decide +kernel
noncomputable def dt_J7_copyOf_6403c : List (Nat × Instr × Nat) := [(0, .aload_n 2, 1), (1, .ldc 110, 2), (3, .if_acmp .ne 10, 3), (6, .iload_n 1, 1), (7, .anewarray 2, 3), (10, .goto 14, 3), (13, .aload_n 2, 1), (14, .invokevirtual 90, 3), (17, .iload_n 1, 1), (18, .invokestatic 95, 3), (21, .checkcast 110, 3), (24, .astore_n 3, 1), (25, .aload_n 0, 1), (26, .iconst 0, 1), (27, .aload_n 3, 1), (28, .iconst 0, 1), (29, .aload_n 0, 1), (30, .arraylength, 1), (31, .iload_n 1, 1), (32, .invokestatic 304, 3), (35, .invokestatic 150, 3), (38, .aload_n 3, 1), (39, .areturn, 1)]
theorem dd_J7_copyOf_6403c : ∀ q ∈ dt_J7_copyOf_6403c, decode cJ7_copyOf_6403c q.1 = .ok q.2 := by
  first
  | (refine dw_all ?_; decide +kernel)
  | decide +kernel
noncomputable def dt_J7_copyOf_9075b : List (Nat × Instr × Nat) := [(0, .iload_n 1, 1), (1, .aload_n 0, 1), (2, .arraylength, 1), (3, .if_icmp .ne 11, 3), (6, .aload_n 0, 1), (7, .invokevirtual 310, 3), (10, .checkcast 311, 3), (13, .areturn, 1), (14, .iload_n 1, 1), (15, .newarray .byte, 2), (17, .astore_n 2, 1), (18, .aload_n 0, 1), (19, .iconst 0, 1), (20, .aload_n 2, 1), (21, .iconst 0, 1), (22, .aload_n 0, 1), (23, .arraylength, 1), (24, .iload_n 1, 1), (25, .invokestatic 304, 3), (28, .invokestatic 150, 3), (31, .aload_n 2, 1), (32, .areturn, 1)]
theorem dd_J7_copyOf_9075b : ∀ q ∈ dt_J7_copyOf_9075b, decode cJ7_copyOf_9075b q.1 = .ok q.2 := by
  first
  | (refine dw_all ?_; decide +kernel)
  | decide +kernel
noncomputable def dt_J7_checkLength_df160 : List (Nat × Instr × Nat) := [(0, .iload_n 1, 1), (1, .iload_n 0, 1), (2, .if_icmp .ge 35, 3), (5, .new 43, 3), (8, .dup, 1), (9, .new 45, 3), (12, .dup, 1), (13, .invokespecial 47, 3), (16, .iload_n 0, 1), (17, .invokevirtual 54, 3), (20, .ldc_w 337, 3), (23, .invokevirtual 50, 3), (26, .iload_n 1, 1), (27, .invokevirtual 54, 3), (30, .invokevirtual 61, 3), (33, .invokespecial 65, 3), (36, .athrow, 1), (37, .return_, 1)]
theorem dd_J7_checkLength_df160 : ∀ q ∈ dt_J7_checkLength_df160, decode cJ7_checkLength_df160 q.1 = .ok q.2 := by
  first
  | (refine dw_all ?_; decide +kernel)
  | decide +kernel
noncomputable def dt_J7_copyOfRange_39247 : List (Nat × Instr × Nat) := [(0, .iload_n 1, 1), (1, .ifCond .ne 9, 3), (4, .iload_n 2, 1), (5, .aload_n 0, 1), (6, .arraylength, 1), (7, .if_icmp .eq 10, 3), (10, .aload_n 0, 1), (11, .iload_n 1, 1), (12, .iload_n 2, 1), (13, .invokestatic 339, 3), (16, .areturn, 1), (17, .aload_n 0, 1), (18, .invokevirtual 310, 3), (21, .checkcast 311, 3), (24, .areturn, 1)]
theorem dd_J7_copyOfRange_39247 : ∀ q ∈ dt_J7_copyOfRange_39247, decode cJ7_copyOfRange_39247 q.1 = .ok q.2 := by
  first
  | (refine dw_all ?_; decide +kernel)
  | decide +kernel
noncomputable def dt_J7_copyOfRangeByte_39247 : List (Nat × Instr × Nat) := [(0, .iload_n 1, 1), (1, .iload_n 2, 1), (2, .invokestatic 343, 3), (5, .iload_n 2, 1), (6, .iload_n 1, 1), (7, .isub, 1), (8, .istore_n 3, 1), (9, .iload_n 3, 1), (10, .newarray .byte, 2), (12, .astore 4, 2), (14, .aload_n 0, 1), (15, .iload_n 1, 1), (16, .aload 4, 2), (18, .iconst 0, 1), (19, .aload_n 0, 1), (20, .arraylength, 1), (21, .iload_n 1, 1), (22, .isub, 1), (23, .iload_n 3, 1), (24, .invokestatic 304, 3), (27, .invokestatic 150, 3), (30, .aload 4, 2), (32, .areturn, 1)]
theorem dd_J7_copyOfRangeByte_39247 : ∀ q ∈ dt_J7_copyOfRangeByte_39247, decode cJ7_copyOfRangeByte_39247 q.1 = .ok q.2 := by
  first
  | (refine dw_all ?_; decide +kernel)
  | decide +kernel
noncomputable def dt_J15_checkIndex_7cf53 : List (Nat × Instr × Nat) := [(0, .iload_n 0, 1), (1, .iload_n 1, 1), (2, .aconst_null, 1), (3, .invokestatic 105, 3), (6, .ireturn, 1)]
theorem dd_J15_checkIndex_7cf53 : ∀ q ∈ dt_J15_checkIndex_7cf53, decode cJ15_checkIndex_7cf53 q.1 = .ok q.2 := by
  first
  | (refine dw_all ?_; decide +kernel)
  | decide +kernel
noncomputable def dt_J8_newLength_cabcc : List (Nat × Instr × Nat) := [(0, .iload_n 0, 1), (1, .iload_n 1, 1), (2, .iload_n 2, 1), (3, .invokestatic 194, 3), (6, .iadd, 1), (7, .istore_n 3, 1), (8, .iconst 0, 1), (9, .iload_n 3, 1), (10, .if_icmp .ge 11, 3), (13, .iload_n 3, 1), (14, .ldc 200, 2), (16, .if_icmp .gt 5, 3), (19, .iload_n 3, 1), (20, .ireturn, 1), (21, .iload_n 0, 1), (22, .iload_n 1, 1), (23, .invokestatic 201, 3), (26, .ireturn, 1)]
theorem dd_J8_newLength_cabcc : ∀ q ∈ dt_J8_newLength_cabcc, decode cJ8_newLength_cabcc q.1 = .ok q.2 := by
  first
  | (refine dw_all ?_; decide +kernel)
  | decide +kernel
noncomputable def dt_J8_hugeLength_7cf53 : List (Nat × Instr × Nat) := [(0, .iload_n 0, 1), (1, .iload_n 1, 1), (2, .iadd, 1), (3, .istore_n 2, 1), (4, .iload_n 2, 1), (5, .ifCond .ge 44, 3), (8, .new 204, 3), (11, .dup, 1), (12, .new 89, 3), (15, .dup, 1), (16, .invokespecial 91, 3), (19, .ldc 206, 2), (21, .invokevirtual 94, 3), (24, .iload_n 0, 1), (25, .invokevirtual 98, 3), (28, .ldc 208, 2), (30, .invokevirtual 94, 3), (33, .iload_n 1, 1), (34, .invokevirtual 98, 3), (37, .ldc 210, 2), (39, .invokevirtual 94, 3), (42, .invokevirtual 101, 3), (45, .invokespecial 212, 3), (48, .athrow, 1), (49, .iload_n 2, 1), (50, .ldc 200, 2), (52, .if_icmp .gt 6, 3), (55, .ldc 200, 2), (57, .ireturn, 1), (58, .iload_n 2, 1), (59, .ireturn, 1)]
theorem dd_J8_hugeLength_7cf53 : ∀ q ∈ dt_J8_hugeLength_7cf53, decode cJ8_hugeLength_7cf53 q.1 = .ok q.2 := by
  first
  | (refine dw_all ?_; decide +kernel)
  | decide +kernel
noncomputable def dt_J3_checkIndex_8e157 : List (Nat × Instr × Nat) := [(0, .iload_n 0, 1), (1, .ifCond .lt 8, 3), (4, .iload_n 0, 1), (5, .iload_n 1, 1), (6, .if_icmp .lt 10, 3), (9, .aload_n 2, 1), (10, .iload_n 0, 1), (11, .iload_n 1, 1), (12, .invokestatic 95, 3), (15, .athrow, 1), (16, .iload_n 0, 1), (17, .ireturn, 1)]
theorem dd_J3_checkIndex_8e157 : ∀ q ∈ dt_J3_checkIndex_8e157, decode cJ3_checkIndex_8e157 q.1 = .ok q.2 := by
  first
  | (refine dw_all ?_; decide +kernel)
  | decide +kernel
noncomputable def dt_J3_checkFromToIndex_8c36e : List (Nat × Instr × Nat) := [(0, .iload_n 0, 1), (1, .ifCond .lt 13, 3), (4, .iload_n 0, 1), (5, .iload_n 1, 1), (6, .if_icmp .gt 8, 3), (9, .iload_n 1, 1), (10, .iload_n 2, 1), (11, .if_icmp .le 11, 3), (14, .aload_n 3, 1), (15, .iload_n 0, 1), (16, .iload_n 1, 1), (17, .iload_n 2, 1), (18, .invokestatic 99, 3), (21, .athrow, 1), (22, .iload_n 0, 1), (23, .ireturn, 1)]
theorem dd_J3_checkFromToIndex_8c36e : ∀ q ∈ dt_J3_checkFromToIndex_8c36e, decode cJ3_checkFromToIndex_8c36e q.1 = .ok q.2 := by
  first
  | (refine dw_all ?_; decide +kernel)
  | decide +kernel
noncomputable def dt_J3_checkFromIndexSize_8c36e : List (Nat × Instr × Nat) := [(0, .iload_n 2, 1), (1, .iload_n 0, 1), (2, .ior, 1), (3, .iload_n 1, 1), (4, .ior, 1), (5, .ifCond .lt 10, 3), (8, .iload_n 1, 1), (9, .iload_n 2, 1), (10, .iload_n 0, 1), (11, .isub, 1), (12, .if_icmp .le 11, 3), (15, .aload_n 3, 1), (16, .iload_n 0, 1), (17, .iload_n 1, 1), (18, .iload_n 2, 1), (19, .invokestatic 103, 3), (22, .athrow, 1), (23, .iload_n 0, 1), (24, .ireturn, 1)]
theorem dd_J3_checkFromIndexSize_8c36e : ∀ q ∈ dt_J3_checkFromIndexSize_8c36e, decode cJ3_checkFromIndexSize_8c36e q.1 = .ok q.2 := by
  first
  | (refine dw_all ?_; decide +kernel)
  | decide +kernel
