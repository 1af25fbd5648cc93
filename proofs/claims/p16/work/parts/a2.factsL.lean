/-! ===== words of the law's own methods ===== -/
def gwl_L2 : List Cond := [(Jvm.Cond.initialized "WavesaleLaw"), (Jvm.Cond.methodLink "WavesaleLaw" (141 : Nat) ({ cls := "WavesaleLaw", name := "region", desc := "(LWavesale;IIILWavesaleLaw$Out;)I" } : Jvm.MethodName)), (Jvm.Cond.static ({ cls := "WavesaleLaw", name := "region", desc := "(LWavesale;IIILWavesaleLaw$Out;)I" } : Jvm.MethodName)), (Jvm.Cond.codeWith ({ cls := "WavesaleLaw", name := "region", desc := "(LWavesale;IIILWavesaleLaw$Out;)I" } : Jvm.MethodName) method_2_code (6 : Nat) (Option.some Jvm.ClassFile.FieldType.int) [((0 : Nat), (13 : Nat), (16 : Nat), (19 : Nat)), ((0 : Nat), (13 : Nat), (20 : Nat), (21 : Nat))]), (Jvm.Cond.classLink "WavesaleLaw" (19 : Nat) "java/lang/IllegalArgumentException"), (Jvm.Cond.classLink "WavesaleLaw" (21 : Nat) "java/lang/IllegalStateException"), (Jvm.Cond.methodLink "WavesaleLaw" (147 : Nat) ({ cls := "WavesaleLaw", name := "border", desc := "(LWavesale;IILWavesaleLaw$Out;)I" } : Jvm.MethodName)), (Jvm.Cond.static ({ cls := "WavesaleLaw", name := "border", desc := "(LWavesale;IILWavesaleLaw$Out;)I" } : Jvm.MethodName)), (Jvm.Cond.codeWith ({ cls := "WavesaleLaw", name := "border", desc := "(LWavesale;IILWavesaleLaw$Out;)I" } : Jvm.MethodName) method_3_code (5 : Nat) (Option.some Jvm.ClassFile.FieldType.int) [((0 : Nat), (11 : Nat), (14 : Nat), (27 : Nat)), ((0 : Nat), (11 : Nat), (18 : Nat), (19 : Nat)), ((0 : Nat), (11 : Nat), (22 : Nat), (21 : Nat))]), (Jvm.Cond.classLink "WavesaleLaw" (27 : Nat) "java/lang/IndexOutOfBoundsException"), (Jvm.Cond.methodLink "WavesaleLaw" (151 : Nat) ({ cls := "WavesaleLaw", name := "bidder", desc := "(LWavesale;IIIILWavesaleLaw$Out;)I" } : Jvm.MethodName)), (Jvm.Cond.static ({ cls := "WavesaleLaw", name := "bidder", desc := "(LWavesale;IIIILWavesaleLaw$Out;)I" } : Jvm.MethodName)), (Jvm.Cond.codeWith ({ cls := "WavesaleLaw", name := "bidder", desc := "(LWavesale;IIIILWavesaleLaw$Out;)I" } : Jvm.MethodName) method_4_code (7 : Nat) (Option.some Jvm.ClassFile.FieldType.int) [((0 : Nat), (15 : Nat), (18 : Nat), (19 : Nat)), ((0 : Nat), (15 : Nat), (22 : Nat), (21 : Nat))]), (Jvm.Cond.methodLink "WavesaleLaw" (155 : Nat) ({ cls := "WavesaleLaw", name := "rules", desc := "(LWavesale;IZLWavesaleLaw$Out;)I" } : Jvm.MethodName)), (Jvm.Cond.static ({ cls := "WavesaleLaw", name := "rules", desc := "(LWavesale;IZLWavesaleLaw$Out;)I" } : Jvm.MethodName)), (Jvm.Cond.codeWith ({ cls := "WavesaleLaw", name := "rules", desc := "(LWavesale;IZLWavesaleLaw$Out;)I" } : Jvm.MethodName) method_5_code (5 : Nat) (Option.some Jvm.ClassFile.FieldType.int) [((0 : Nat), (11 : Nat), (14 : Nat), (19 : Nat)), ((0 : Nat), (11 : Nat), (18 : Nat), (21 : Nat))]), (Jvm.Cond.methodLink "WavesaleLaw" (159 : Nat) ({ cls := "WavesaleLaw", name := "step", desc := "(LWavesale;ILWavesaleLaw$Out;)I" } : Jvm.MethodName)), (Jvm.Cond.static ({ cls := "WavesaleLaw", name := "step", desc := "(LWavesale;ILWavesaleLaw$Out;)I" } : Jvm.MethodName)), (Jvm.Cond.codeWith ({ cls := "WavesaleLaw", name := "step", desc := "(LWavesale;ILWavesaleLaw$Out;)I" } : Jvm.MethodName) method_6_code (4 : Nat) (Option.some Jvm.ClassFile.FieldType.int) [((0 : Nat), (10 : Nat), (13 : Nat), (19 : Nat)), ((0 : Nat), (10 : Nat), (16 : Nat), (21 : Nat))]), (Jvm.Cond.methodLink "WavesaleLaw" (163 : Nat) ({ cls := "WavesaleLaw", name := "open", desc := "(LWavesale;LWavesaleLaw$Out;)I" } : Jvm.MethodName)), (Jvm.Cond.static ({ cls := "WavesaleLaw", name := "open", desc := "(LWavesale;LWavesaleLaw$Out;)I" } : Jvm.MethodName)), (Jvm.Cond.codeWith ({ cls := "WavesaleLaw", name := "open", desc := "(LWavesale;LWavesaleLaw$Out;)I" } : Jvm.MethodName) method_7_code (3 : Nat) (Option.some Jvm.ClassFile.FieldType.int) [((0 : Nat), (9 : Nat), (12 : Nat), (21 : Nat))]), (Jvm.Cond.methodLink "WavesaleLaw" (167 : Nat) ({ cls := "WavesaleLaw", name := "wish", desc := "(LWavesale;IIILWavesaleLaw$Out;)I" } : Jvm.MethodName)), (Jvm.Cond.static ({ cls := "WavesaleLaw", name := "wish", desc := "(LWavesale;IIILWavesaleLaw$Out;)I" } : Jvm.MethodName)), (Jvm.Cond.codeWith ({ cls := "WavesaleLaw", name := "wish", desc := "(LWavesale;IIILWavesaleLaw$Out;)I" } : Jvm.MethodName) method_8_code (6 : Nat) (Option.some Jvm.ClassFile.FieldType.int) [((0 : Nat), (13 : Nat), (16 : Nat), (27 : Nat)), ((0 : Nat), (13 : Nat), (20 : Nat), (19 : Nat)), ((0 : Nat), (13 : Nat), (24 : Nat), (21 : Nat))]), (Jvm.Cond.methodLink "WavesaleLaw" (170 : Nat) ({ cls := "WavesaleLaw", name := "waive", desc := "(LWavesale;ILWavesaleLaw$Out;)I" } : Jvm.MethodName)), (Jvm.Cond.static ({ cls := "WavesaleLaw", name := "waive", desc := "(LWavesale;ILWavesaleLaw$Out;)I" } : Jvm.MethodName)), (Jvm.Cond.codeWith ({ cls := "WavesaleLaw", name := "waive", desc := "(LWavesale;ILWavesaleLaw$Out;)I" } : Jvm.MethodName) method_9_code (4 : Nat) (Option.some Jvm.ClassFile.FieldType.int) [((0 : Nat), (10 : Nat), (13 : Nat), (27 : Nat)), ((0 : Nat), (10 : Nat), (16 : Nat), (21 : Nat))]), (Jvm.Cond.methodLink "WavesaleLaw" (173 : Nat) ({ cls := "WavesaleLaw", name := "close", desc := "(LWavesale;ILWavesaleLaw$Out;)I" } : Jvm.MethodName)), (Jvm.Cond.static ({ cls := "WavesaleLaw", name := "close", desc := "(LWavesale;ILWavesaleLaw$Out;)I" } : Jvm.MethodName)), (Jvm.Cond.codeWith ({ cls := "WavesaleLaw", name := "close", desc := "(LWavesale;ILWavesaleLaw$Out;)I" } : Jvm.MethodName) method_10_code (4 : Nat) (Option.some Jvm.ClassFile.FieldType.int) [((0 : Nat), (10 : Nat), (13 : Nat), (19 : Nat)), ((0 : Nat), (10 : Nat), (16 : Nat), (21 : Nat))]), (Jvm.Cond.methodLink "WavesaleLaw" (176 : Nat) ({ cls := "WavesaleLaw", name := "offer", desc := "(LWavesale;IIILWavesaleLaw$Out;)I" } : Jvm.MethodName)), (Jvm.Cond.static ({ cls := "WavesaleLaw", name := "offer", desc := "(LWavesale;IIILWavesaleLaw$Out;)I" } : Jvm.MethodName)), (Jvm.Cond.codeWith ({ cls := "WavesaleLaw", name := "offer", desc := "(LWavesale;IIILWavesaleLaw$Out;)I" } : Jvm.MethodName) method_11_code (6 : Nat) (Option.some Jvm.ClassFile.FieldType.int) [((0 : Nat), (13 : Nat), (16 : Nat), (27 : Nat)), ((0 : Nat), (13 : Nat), (20 : Nat), (19 : Nat)), ((0 : Nat), (13 : Nat), (24 : Nat), (21 : Nat))]), (Jvm.Cond.methodLink "WavesaleLaw" (179 : Nat) ({ cls := "WavesaleLaw", name := "settle", desc := "(LWavesale;ILWavesaleLaw$Out;)I" } : Jvm.MethodName)), (Jvm.Cond.static ({ cls := "WavesaleLaw", name := "settle", desc := "(LWavesale;ILWavesaleLaw$Out;)I" } : Jvm.MethodName)), (Jvm.Cond.codeWith ({ cls := "WavesaleLaw", name := "settle", desc := "(LWavesale;ILWavesaleLaw$Out;)I" } : Jvm.MethodName) method_12_code (4 : Nat) (Option.some Jvm.ClassFile.FieldType.int) [((0 : Nat), (10 : Nat), (13 : Nat), (19 : Nat)), ((0 : Nat), (10 : Nat), (16 : Nat), (21 : Nat))]), (Jvm.Cond.methodLink "WavesaleLaw" (182 : Nat) ({ cls := "WavesaleLaw", name := "fail", desc := "(LWavesale;ILWavesaleLaw$Out;)I" } : Jvm.MethodName)), (Jvm.Cond.static ({ cls := "WavesaleLaw", name := "fail", desc := "(LWavesale;ILWavesaleLaw$Out;)I" } : Jvm.MethodName)), (Jvm.Cond.codeWith ({ cls := "WavesaleLaw", name := "fail", desc := "(LWavesale;ILWavesaleLaw$Out;)I" } : Jvm.MethodName) method_13_code (4 : Nat) (Option.some Jvm.ClassFile.FieldType.int) [((0 : Nat), (10 : Nat), (13 : Nat), (27 : Nat)), ((0 : Nat), (10 : Nat), (16 : Nat), (21 : Nat))]), (Jvm.Cond.methodLink "WavesaleLaw" (185 : Nat) ({ cls := "WavesaleLaw", name := "station", desc := "(LWavesale;IILWavesaleLaw$Out;)I" } : Jvm.MethodName)), (Jvm.Cond.static ({ cls := "WavesaleLaw", name := "station", desc := "(LWavesale;IILWavesaleLaw$Out;)I" } : Jvm.MethodName)), (Jvm.Cond.codeWith ({ cls := "WavesaleLaw", name := "station", desc := "(LWavesale;IILWavesaleLaw$Out;)I" } : Jvm.MethodName) method_14_code (5 : Nat) (Option.some Jvm.ClassFile.FieldType.int) [((0 : Nat), (11 : Nat), (14 : Nat), (27 : Nat)), ((0 : Nat), (11 : Nat), (18 : Nat), (19 : Nat)), ((0 : Nat), (11 : Nat), (22 : Nat), (21 : Nat))]), (Jvm.Cond.methodLink "WavesaleLaw" (188 : Nat) ({ cls := "WavesaleLaw", name := "ask", desc := "(LWavesale;IILWavesaleLaw$Out;)I" } : Jvm.MethodName)), (Jvm.Cond.static ({ cls := "WavesaleLaw", name := "ask", desc := "(LWavesale;IILWavesaleLaw$Out;)I" } : Jvm.MethodName)), (Jvm.Cond.codeWith ({ cls := "WavesaleLaw", name := "ask", desc := "(LWavesale;IILWavesaleLaw$Out;)I" } : Jvm.MethodName) method_15_code (5 : Nat) (Option.some Jvm.ClassFile.FieldType.int) [((0 : Nat), (11 : Nat), (14 : Nat), (27 : Nat)), ((0 : Nat), (11 : Nat), (18 : Nat), (19 : Nat))]), (Jvm.Cond.methodLink "WavesaleLaw" (191 : Nat) ({ cls := "WavesaleLaw", name := "packs", desc := "(LWavesale;IILWavesaleLaw$Out;)I" } : Jvm.MethodName)), (Jvm.Cond.static ({ cls := "WavesaleLaw", name := "packs", desc := "(LWavesale;IILWavesaleLaw$Out;)I" } : Jvm.MethodName)), (Jvm.Cond.codeWith ({ cls := "WavesaleLaw", name := "packs", desc := "(LWavesale;IILWavesaleLaw$Out;)I" } : Jvm.MethodName) method_16_code (5 : Nat) (Option.some Jvm.ClassFile.FieldType.int) [((0 : Nat), (18 : Nat), (21 : Nat), (19 : Nat))]), (Jvm.Cond.methodLink "WavesaleLaw" (197 : Nat) ({ cls := "WavesaleLaw", name := "channel", desc := "(LWavesale;IIILWavesaleLaw$Out;)I" } : Jvm.MethodName)), (Jvm.Cond.static ({ cls := "WavesaleLaw", name := "channel", desc := "(LWavesale;IIILWavesaleLaw$Out;)I" } : Jvm.MethodName)), (Jvm.Cond.codeWith ({ cls := "WavesaleLaw", name := "channel", desc := "(LWavesale;IIILWavesaleLaw$Out;)I" } : Jvm.MethodName) method_17_code (6 : Nat) (Option.some Jvm.ClassFile.FieldType.int) [((0 : Nat), (13 : Nat), (16 : Nat), (27 : Nat)), ((0 : Nat), (13 : Nat), (20 : Nat), (19 : Nat))]), (Jvm.Cond.methodLink "WavesaleLaw" (200 : Nat) ({ cls := "WavesaleLaw", name := "clear", desc := "(LWavesale;ILWavesaleLaw$Out;)I" } : Jvm.MethodName)), (Jvm.Cond.static ({ cls := "WavesaleLaw", name := "clear", desc := "(LWavesale;ILWavesaleLaw$Out;)I" } : Jvm.MethodName)), (Jvm.Cond.codeWith ({ cls := "WavesaleLaw", name := "clear", desc := "(LWavesale;ILWavesaleLaw$Out;)I" } : Jvm.MethodName) method_18_code (4 : Nat) (Option.some Jvm.ClassFile.FieldType.int) [((0 : Nat), (10 : Nat), (13 : Nat), (19 : Nat))]), (Jvm.Cond.methodLink "WavesaleLaw" (203 : Nat) ({ cls := "WavesaleLaw", name := "ofRegion", desc := "(LWavesale;IILWavesaleLaw$Out;)I" } : Jvm.MethodName)), (Jvm.Cond.static ({ cls := "WavesaleLaw", name := "ofRegion", desc := "(LWavesale;IILWavesaleLaw$Out;)I" } : Jvm.MethodName)), (Jvm.Cond.codeWith ({ cls := "WavesaleLaw", name := "ofRegion", desc := "(LWavesale;IILWavesaleLaw$Out;)I" } : Jvm.MethodName) method_19_code (5 : Nat) (Option.some Jvm.ClassFile.FieldType.int) [((0 : Nat), (11 : Nat), (14 : Nat), (27 : Nat)), ((0 : Nat), (11 : Nat), (18 : Nat), (19 : Nat))]), (Jvm.Cond.methodLink "WavesaleLaw" (206 : Nat) ({ cls := "WavesaleLaw", name := "ofBidder", desc := "(LWavesale;IILWavesaleLaw$Out;)I" } : Jvm.MethodName)), (Jvm.Cond.static ({ cls := "WavesaleLaw", name := "ofBidder", desc := "(LWavesale;IILWavesaleLaw$Out;)I" } : Jvm.MethodName)), (Jvm.Cond.codeWith ({ cls := "WavesaleLaw", name := "ofBidder", desc := "(LWavesale;IILWavesaleLaw$Out;)I" } : Jvm.MethodName) method_20_code (5 : Nat) (Option.some Jvm.ClassFile.FieldType.int) [((0 : Nat), (11 : Nat), (14 : Nat), (27 : Nat)), ((0 : Nat), (11 : Nat), (18 : Nat), (19 : Nat))]), (Jvm.Cond.methodLink "WavesaleLaw" (209 : Nat) ({ cls := "WavesaleLaw", name := "wants", desc := "(LWavesale;IIZLWavesaleLaw$Out;)I" } : Jvm.MethodName)), (Jvm.Cond.static ({ cls := "WavesaleLaw", name := "wants", desc := "(LWavesale;IIZLWavesaleLaw$Out;)I" } : Jvm.MethodName)), (Jvm.Cond.codeWith ({ cls := "WavesaleLaw", name := "wants", desc := "(LWavesale;IIZLWavesaleLaw$Out;)I" } : Jvm.MethodName) method_21_code (6 : Nat) (Option.some Jvm.ClassFile.FieldType.int) [((0 : Nat), (13 : Nat), (16 : Nat), (27 : Nat))]), (Jvm.Cond.methodLink "WavesaleLaw" (213 : Nat) ({ cls := "WavesaleLaw", name := "priceIn", desc := "(LWavesale;IILWavesaleLaw$Out;)I" } : Jvm.MethodName)), (Jvm.Cond.static ({ cls := "WavesaleLaw", name := "priceIn", desc := "(LWavesale;IILWavesaleLaw$Out;)I" } : Jvm.MethodName)), (Jvm.Cond.codeWith ({ cls := "WavesaleLaw", name := "priceIn", desc := "(LWavesale;IILWavesaleLaw$Out;)I" } : Jvm.MethodName) method_22_code (5 : Nat) (Option.some Jvm.ClassFile.FieldType.int) [((0 : Nat), (11 : Nat), (14 : Nat), (27 : Nat))]), (Jvm.Cond.methodLink "WavesaleLaw" (216 : Nat) ({ cls := "WavesaleLaw", name := "codeIn", desc := "(LWavesale;IIZLWavesaleLaw$Out;)I" } : Jvm.MethodName)), (Jvm.Cond.static ({ cls := "WavesaleLaw", name := "codeIn", desc := "(LWavesale;IIZLWavesaleLaw$Out;)I" } : Jvm.MethodName)), (Jvm.Cond.codeWith ({ cls := "WavesaleLaw", name := "codeIn", desc := "(LWavesale;IIZLWavesaleLaw$Out;)I" } : Jvm.MethodName) method_23_code (6 : Nat) (Option.some Jvm.ClassFile.FieldType.int) [((0 : Nat), (13 : Nat), (16 : Nat), (27 : Nat))]), (Jvm.Cond.methodLink "WavesaleLaw" (219 : Nat) ({ cls := "WavesaleLaw", name := "ofPackage", desc := "(LWavesale;IIZLWavesaleLaw$Out;)I" } : Jvm.MethodName)), (Jvm.Cond.static ({ cls := "WavesaleLaw", name := "ofPackage", desc := "(LWavesale;IIZLWavesaleLaw$Out;)I" } : Jvm.MethodName)), (Jvm.Cond.codeWith ({ cls := "WavesaleLaw", name := "ofPackage", desc := "(LWavesale;IIZLWavesaleLaw$Out;)I" } : Jvm.MethodName) method_24_code (6 : Nat) (Option.some Jvm.ClassFile.FieldType.int) [((0 : Nat), (13 : Nat), (16 : Nat), (27 : Nat))]), (Jvm.Cond.methodLink "WavesaleLaw" (222 : Nat) ({ cls := "WavesaleLaw", name := "wins", desc := "(LWavesale;ILWavesaleLaw$Out;)I" } : Jvm.MethodName)), (Jvm.Cond.static ({ cls := "WavesaleLaw", name := "wins", desc := "(LWavesale;ILWavesaleLaw$Out;)I" } : Jvm.MethodName)), (Jvm.Cond.codeWith ({ cls := "WavesaleLaw", name := "wins", desc := "(LWavesale;ILWavesaleLaw$Out;)I" } : Jvm.MethodName) method_25_code (4 : Nat) (Option.some Jvm.ClassFile.FieldType.int) [((0 : Nat), (10 : Nat), (13 : Nat), (27 : Nat))]), (Jvm.Cond.methodLink "WavesaleLaw" (225 : Nat) ({ cls := "WavesaleLaw", name := "pays", desc := "(LWavesale;IZLWavesaleLaw$Out;)I" } : Jvm.MethodName)), (Jvm.Cond.static ({ cls := "WavesaleLaw", name := "pays", desc := "(LWavesale;IZLWavesaleLaw$Out;)I" } : Jvm.MethodName)), (Jvm.Cond.codeWith ({ cls := "WavesaleLaw", name := "pays", desc := "(LWavesale;IZLWavesaleLaw$Out;)I" } : Jvm.MethodName) method_26_code (5 : Nat) (Option.some Jvm.ClassFile.FieldType.int) [((0 : Nat), (11 : Nat), (14 : Nat), (27 : Nat))]), (Jvm.Cond.methodLink "WavesaleLaw" (228 : Nat) ({ cls := "WavesaleLaw", name := "holder", desc := "(LWavesale;IILWavesaleLaw$Out;)I" } : Jvm.MethodName)), (Jvm.Cond.static ({ cls := "WavesaleLaw", name := "holder", desc := "(LWavesale;IILWavesaleLaw$Out;)I" } : Jvm.MethodName)), (Jvm.Cond.codeWith ({ cls := "WavesaleLaw", name := "holder", desc := "(LWavesale;IILWavesaleLaw$Out;)I" } : Jvm.MethodName) method_27_code (5 : Nat) (Option.some Jvm.ClassFile.FieldType.int) [((0 : Nat), (11 : Nat), (14 : Nat), (27 : Nat))]), (Jvm.Cond.methodLink "WavesaleLaw" (231 : Nat) ({ cls := "WavesaleLaw", name := "chart", desc := "(LWavesale;ILWavesaleLaw$Out;)I" } : Jvm.MethodName)), (Jvm.Cond.static ({ cls := "WavesaleLaw", name := "chart", desc := "(LWavesale;ILWavesaleLaw$Out;)I" } : Jvm.MethodName)), (Jvm.Cond.codeWith ({ cls := "WavesaleLaw", name := "chart", desc := "(LWavesale;ILWavesaleLaw$Out;)I" } : Jvm.MethodName) method_28_code (4 : Nat) (Option.some Jvm.ClassFile.FieldType.int) [((0 : Nat), (9 : Nat), (12 : Nat), (27 : Nat))]), (Jvm.Cond.methodLink "WavesaleLaw" (234 : Nat) ({ cls := "WavesaleLaw", name := "sale", desc := "(LWavesale;ILWavesaleLaw$Out;)I" } : Jvm.MethodName)), (Jvm.Cond.static ({ cls := "WavesaleLaw", name := "sale", desc := "(LWavesale;ILWavesaleLaw$Out;)I" } : Jvm.MethodName)), (Jvm.Cond.codeWith ({ cls := "WavesaleLaw", name := "sale", desc := "(LWavesale;ILWavesaleLaw$Out;)I" } : Jvm.MethodName) method_29_code (4 : Nat) (Option.some Jvm.ClassFile.FieldType.int) [((0 : Nat), (10 : Nat), (13 : Nat), (19 : Nat))]), (Jvm.Cond.methodLink "WavesaleLaw" (237 : Nat) ({ cls := "WavesaleLaw", name := "worth", desc := "(LWavesale;ILWavesaleLaw$Out;)I" } : Jvm.MethodName)), (Jvm.Cond.static ({ cls := "WavesaleLaw", name := "worth", desc := "(LWavesale;ILWavesaleLaw$Out;)I" } : Jvm.MethodName)), (Jvm.Cond.codeWith ({ cls := "WavesaleLaw", name := "worth", desc := "(LWavesale;ILWavesaleLaw$Out;)I" } : Jvm.MethodName) method_30_code (4 : Nat) (Option.some Jvm.ClassFile.FieldType.int) [((0 : Nat), (10 : Nat), (13 : Nat), (19 : Nat))]), (Jvm.Cond.methodLink "WavesaleLaw" (240 : Nat) ({ cls := "WavesaleLaw", name := "wouldPay", desc := "(LWavesale;IILWavesaleLaw$Out;)I" } : Jvm.MethodName)), (Jvm.Cond.static ({ cls := "WavesaleLaw", name := "wouldPay", desc := "(LWavesale;IILWavesaleLaw$Out;)I" } : Jvm.MethodName)), (Jvm.Cond.codeWith ({ cls := "WavesaleLaw", name := "wouldPay", desc := "(LWavesale;IILWavesaleLaw$Out;)I" } : Jvm.MethodName) method_31_code (5 : Nat) (Option.some Jvm.ClassFile.FieldType.int) [((0 : Nat), (11 : Nat), (14 : Nat), (27 : Nat)), ((0 : Nat), (11 : Nat), (18 : Nat), (19 : Nat))]), (Jvm.Cond.methodLink "WavesaleLaw" (243 : Nat) ({ cls := "WavesaleLaw", name := "objects", desc := "(LWavesale;IILWavesaleLaw$Out;)I" } : Jvm.MethodName)), (Jvm.Cond.static ({ cls := "WavesaleLaw", name := "objects", desc := "(LWavesale;IILWavesaleLaw$Out;)I" } : Jvm.MethodName)), (Jvm.Cond.codeWith ({ cls := "WavesaleLaw", name := "objects", desc := "(LWavesale;IILWavesaleLaw$Out;)I" } : Jvm.MethodName) method_32_code (5 : Nat) (Option.some Jvm.ClassFile.FieldType.int) [((0 : Nat), (11 : Nat), (14 : Nat), (19 : Nat))]), (Jvm.Cond.methodLink "WavesaleLaw" (246 : Nat) ({ cls := "WavesaleLaw", name := "most", desc := "(LWavesale;IILWavesaleLaw$Out;)I" } : Jvm.MethodName)), (Jvm.Cond.static ({ cls := "WavesaleLaw", name := "most", desc := "(LWavesale;IILWavesaleLaw$Out;)I" } : Jvm.MethodName)), (Jvm.Cond.codeWith ({ cls := "WavesaleLaw", name := "most", desc := "(LWavesale;IILWavesaleLaw$Out;)I" } : Jvm.MethodName) method_33_code (5 : Nat) (Option.some Jvm.ClassFile.FieldType.int) [((0 : Nat), (11 : Nat), (14 : Nat), (27 : Nat))]), (Jvm.Cond.methodLink "WavesaleLaw" (249 : Nat) ({ cls := "WavesaleLaw", name := "contradicts", desc := "(LWavesale;ILWavesaleLaw$Out;)I" } : Jvm.MethodName)), (Jvm.Cond.static ({ cls := "WavesaleLaw", name := "contradicts", desc := "(LWavesale;ILWavesaleLaw$Out;)I" } : Jvm.MethodName)), (Jvm.Cond.codeWith ({ cls := "WavesaleLaw", name := "contradicts", desc := "(LWavesale;ILWavesaleLaw$Out;)I" } : Jvm.MethodName) method_34_code (4 : Nat) (Option.some Jvm.ClassFile.FieldType.int) [((0 : Nat), (10 : Nat), (13 : Nat), (27 : Nat))]), (Jvm.Cond.methodLink "WavesaleLaw" (252 : Nat) ({ cls := "WavesaleLaw", name := "anew", desc := "(LWavesale;IIIILWavesaleLaw$Out;)I" } : Jvm.MethodName)), (Jvm.Cond.static ({ cls := "WavesaleLaw", name := "anew", desc := "(LWavesale;IIIILWavesaleLaw$Out;)I" } : Jvm.MethodName)), (Jvm.Cond.codeWith ({ cls := "WavesaleLaw", name := "anew", desc := "(LWavesale;IIIILWavesaleLaw$Out;)I" } : Jvm.MethodName) method_35_code (7 : Nat) (Option.some Jvm.ClassFile.FieldType.int) [((0 : Nat), (15 : Nat), (18 : Nat), (27 : Nat)), ((0 : Nat), (15 : Nat), (22 : Nat), (19 : Nat))])]
set_option maxRecDepth 100000 in
theorem gv_L : ∀ w ∈ gwl_L2, w ∈ xx_gws := xx_inT [88, 942, 0, 0, 0, 0, 36, 0, 0, 0, 32, 0, 0, 10, 0, 0, 4, 0, 0, 5, 0, 0, 9, 0, 0, 20, 0, 0, 10, 0, 0, 82, 0, 0, 21, 0, 0, 21, 0, 0, 9, 0, 0, 9, 0, 0, 9, 0, 0, 12, 0, 0, 8, 0, 0, 4, 0, 0, 4, 0, 0, 4, 0, 0, 5, 0, 0, 9, 0, 0, 4, 0, 0, 5, 0, 0, 4, 0, 0, 4, 0, 0, 5, 0, 0, 5, 0, 0, 4, 0, 0, 4, 0, 0, 4, 0, 0, 6, 0, 0, 9, 0, 0, 5, 0, 0] rfl (by decide +kernel)
theorem in_RL : Cond.initialized RL ∈ xx_gws := (gv_L _ (List.mem_of_getElem? (i := 0) rfl))
theorem ck_L_19 : Cond.classLink RL 19 "java/lang/IllegalArgumentException" ∈ xx_gws := (gv_L _ (List.mem_of_getElem? (i := 4) rfl))
theorem ck_L_21 : Cond.classLink RL 21 "java/lang/IllegalStateException" ∈ xx_gws := (gv_L _ (List.mem_of_getElem? (i := 5) rfl))
theorem ck_L_27 : Cond.classLink RL 27 "java/lang/IndexOutOfBoundsException" ∈ xx_gws := (gv_L _ (List.mem_of_getElem? (i := 9) rfl))
abbrev hh_L_region : List (Nat × Nat × Nat × Nat) := [(0, 13, 16, 19), (0, 13, 20, 21)]
theorem cw_L_region : Cond.codeWith m_L_region.1 m_L_region.2.1 m_L_region.2.2.1 m_L_region.2.2.2.1 hh_L_region ∈ xx_gws := (gv_L _ (List.mem_of_getElem? (i := 3) rfl))
theorem st_L_region : Cond.static yL_region ∈ xx_gws := (gv_L _ (List.mem_of_getElem? (i := 2) rfl))
abbrev hh_L_border : List (Nat × Nat × Nat × Nat) := [(0, 11, 14, 27), (0, 11, 18, 19), (0, 11, 22, 21)]
theorem cw_L_border : Cond.codeWith m_L_border.1 m_L_border.2.1 m_L_border.2.2.1 m_L_border.2.2.2.1 hh_L_border ∈ xx_gws := (gv_L _ (List.mem_of_getElem? (i := 8) rfl))
theorem st_L_border : Cond.static yL_border ∈ xx_gws := (gv_L _ (List.mem_of_getElem? (i := 7) rfl))
abbrev hh_L_bidder : List (Nat × Nat × Nat × Nat) := [(0, 15, 18, 19), (0, 15, 22, 21)]
theorem cw_L_bidder : Cond.codeWith m_L_bidder.1 m_L_bidder.2.1 m_L_bidder.2.2.1 m_L_bidder.2.2.2.1 hh_L_bidder ∈ xx_gws := (gv_L _ (List.mem_of_getElem? (i := 12) rfl))
theorem st_L_bidder : Cond.static yL_bidder ∈ xx_gws := (gv_L _ (List.mem_of_getElem? (i := 11) rfl))
abbrev hh_L_rules : List (Nat × Nat × Nat × Nat) := [(0, 11, 14, 19), (0, 11, 18, 21)]
theorem cw_L_rules : Cond.codeWith m_L_rules.1 m_L_rules.2.1 m_L_rules.2.2.1 m_L_rules.2.2.2.1 hh_L_rules ∈ xx_gws := (gv_L _ (List.mem_of_getElem? (i := 15) rfl))
theorem st_L_rules : Cond.static yL_rules ∈ xx_gws := (gv_L _ (List.mem_of_getElem? (i := 14) rfl))
abbrev hh_L_step : List (Nat × Nat × Nat × Nat) := [(0, 10, 13, 19), (0, 10, 16, 21)]
theorem cw_L_step : Cond.codeWith m_L_step.1 m_L_step.2.1 m_L_step.2.2.1 m_L_step.2.2.2.1 hh_L_step ∈ xx_gws := (gv_L _ (List.mem_of_getElem? (i := 18) rfl))
theorem st_L_step : Cond.static yL_step ∈ xx_gws := (gv_L _ (List.mem_of_getElem? (i := 17) rfl))
abbrev hh_L_open : List (Nat × Nat × Nat × Nat) := [(0, 9, 12, 21)]
theorem cw_L_open : Cond.codeWith m_L_open.1 m_L_open.2.1 m_L_open.2.2.1 m_L_open.2.2.2.1 hh_L_open ∈ xx_gws := (gv_L _ (List.mem_of_getElem? (i := 21) rfl))
theorem st_L_open : Cond.static yL_open ∈ xx_gws := (gv_L _ (List.mem_of_getElem? (i := 20) rfl))
abbrev hh_L_wish : List (Nat × Nat × Nat × Nat) := [(0, 13, 16, 27), (0, 13, 20, 19), (0, 13, 24, 21)]
theorem cw_L_wish : Cond.codeWith m_L_wish.1 m_L_wish.2.1 m_L_wish.2.2.1 m_L_wish.2.2.2.1 hh_L_wish ∈ xx_gws := (gv_L _ (List.mem_of_getElem? (i := 24) rfl))
theorem st_L_wish : Cond.static yL_wish ∈ xx_gws := (gv_L _ (List.mem_of_getElem? (i := 23) rfl))
abbrev hh_L_waive : List (Nat × Nat × Nat × Nat) := [(0, 10, 13, 27), (0, 10, 16, 21)]
theorem cw_L_waive : Cond.codeWith m_L_waive.1 m_L_waive.2.1 m_L_waive.2.2.1 m_L_waive.2.2.2.1 hh_L_waive ∈ xx_gws := (gv_L _ (List.mem_of_getElem? (i := 27) rfl))
theorem st_L_waive : Cond.static yL_waive ∈ xx_gws := (gv_L _ (List.mem_of_getElem? (i := 26) rfl))
abbrev hh_L_close : List (Nat × Nat × Nat × Nat) := [(0, 10, 13, 19), (0, 10, 16, 21)]
theorem cw_L_close : Cond.codeWith m_L_close.1 m_L_close.2.1 m_L_close.2.2.1 m_L_close.2.2.2.1 hh_L_close ∈ xx_gws := (gv_L _ (List.mem_of_getElem? (i := 30) rfl))
theorem st_L_close : Cond.static yL_close ∈ xx_gws := (gv_L _ (List.mem_of_getElem? (i := 29) rfl))
abbrev hh_L_offer : List (Nat × Nat × Nat × Nat) := [(0, 13, 16, 27), (0, 13, 20, 19), (0, 13, 24, 21)]
theorem cw_L_offer : Cond.codeWith m_L_offer.1 m_L_offer.2.1 m_L_offer.2.2.1 m_L_offer.2.2.2.1 hh_L_offer ∈ xx_gws := (gv_L _ (List.mem_of_getElem? (i := 33) rfl))
theorem st_L_offer : Cond.static yL_offer ∈ xx_gws := (gv_L _ (List.mem_of_getElem? (i := 32) rfl))
abbrev hh_L_settle : List (Nat × Nat × Nat × Nat) := [(0, 10, 13, 19), (0, 10, 16, 21)]
theorem cw_L_settle : Cond.codeWith m_L_settle.1 m_L_settle.2.1 m_L_settle.2.2.1 m_L_settle.2.2.2.1 hh_L_settle ∈ xx_gws := (gv_L _ (List.mem_of_getElem? (i := 36) rfl))
theorem st_L_settle : Cond.static yL_settle ∈ xx_gws := (gv_L _ (List.mem_of_getElem? (i := 35) rfl))
abbrev hh_L_fail : List (Nat × Nat × Nat × Nat) := [(0, 10, 13, 27), (0, 10, 16, 21)]
theorem cw_L_fail : Cond.codeWith m_L_fail.1 m_L_fail.2.1 m_L_fail.2.2.1 m_L_fail.2.2.2.1 hh_L_fail ∈ xx_gws := (gv_L _ (List.mem_of_getElem? (i := 39) rfl))
theorem st_L_fail : Cond.static yL_fail ∈ xx_gws := (gv_L _ (List.mem_of_getElem? (i := 38) rfl))
abbrev hh_L_station : List (Nat × Nat × Nat × Nat) := [(0, 11, 14, 27), (0, 11, 18, 19), (0, 11, 22, 21)]
theorem cw_L_station : Cond.codeWith m_L_station.1 m_L_station.2.1 m_L_station.2.2.1 m_L_station.2.2.2.1 hh_L_station ∈ xx_gws := (gv_L _ (List.mem_of_getElem? (i := 42) rfl))
theorem st_L_station : Cond.static yL_station ∈ xx_gws := (gv_L _ (List.mem_of_getElem? (i := 41) rfl))
abbrev hh_L_ask : List (Nat × Nat × Nat × Nat) := [(0, 11, 14, 27), (0, 11, 18, 19)]
theorem cw_L_ask : Cond.codeWith m_L_ask.1 m_L_ask.2.1 m_L_ask.2.2.1 m_L_ask.2.2.2.1 hh_L_ask ∈ xx_gws := (gv_L _ (List.mem_of_getElem? (i := 45) rfl))
theorem st_L_ask : Cond.static yL_ask ∈ xx_gws := (gv_L _ (List.mem_of_getElem? (i := 44) rfl))
abbrev hh_L_packs : List (Nat × Nat × Nat × Nat) := [(0, 18, 21, 19)]
theorem cw_L_packs : Cond.codeWith m_L_packs.1 m_L_packs.2.1 m_L_packs.2.2.1 m_L_packs.2.2.2.1 hh_L_packs ∈ xx_gws := (gv_L _ (List.mem_of_getElem? (i := 48) rfl))
theorem st_L_packs : Cond.static yL_packs ∈ xx_gws := (gv_L _ (List.mem_of_getElem? (i := 47) rfl))
abbrev hh_L_channel : List (Nat × Nat × Nat × Nat) := [(0, 13, 16, 27), (0, 13, 20, 19)]
theorem cw_L_channel : Cond.codeWith m_L_channel.1 m_L_channel.2.1 m_L_channel.2.2.1 m_L_channel.2.2.2.1 hh_L_channel ∈ xx_gws := (gv_L _ (List.mem_of_getElem? (i := 51) rfl))
theorem st_L_channel : Cond.static yL_channel ∈ xx_gws := (gv_L _ (List.mem_of_getElem? (i := 50) rfl))
abbrev hh_L_clear : List (Nat × Nat × Nat × Nat) := [(0, 10, 13, 19)]
theorem cw_L_clear : Cond.codeWith m_L_clear.1 m_L_clear.2.1 m_L_clear.2.2.1 m_L_clear.2.2.2.1 hh_L_clear ∈ xx_gws := (gv_L _ (List.mem_of_getElem? (i := 54) rfl))
theorem st_L_clear : Cond.static yL_clear ∈ xx_gws := (gv_L _ (List.mem_of_getElem? (i := 53) rfl))
abbrev hh_L_ofRegion : List (Nat × Nat × Nat × Nat) := [(0, 11, 14, 27), (0, 11, 18, 19)]
theorem cw_L_ofRegion : Cond.codeWith m_L_ofRegion.1 m_L_ofRegion.2.1 m_L_ofRegion.2.2.1 m_L_ofRegion.2.2.2.1 hh_L_ofRegion ∈ xx_gws := (gv_L _ (List.mem_of_getElem? (i := 57) rfl))
theorem st_L_ofRegion : Cond.static yL_ofRegion ∈ xx_gws := (gv_L _ (List.mem_of_getElem? (i := 56) rfl))
abbrev hh_L_ofBidder : List (Nat × Nat × Nat × Nat) := [(0, 11, 14, 27), (0, 11, 18, 19)]
theorem cw_L_ofBidder : Cond.codeWith m_L_ofBidder.1 m_L_ofBidder.2.1 m_L_ofBidder.2.2.1 m_L_ofBidder.2.2.2.1 hh_L_ofBidder ∈ xx_gws := (gv_L _ (List.mem_of_getElem? (i := 60) rfl))
theorem st_L_ofBidder : Cond.static yL_ofBidder ∈ xx_gws := (gv_L _ (List.mem_of_getElem? (i := 59) rfl))
abbrev hh_L_wants : List (Nat × Nat × Nat × Nat) := [(0, 13, 16, 27)]
theorem cw_L_wants : Cond.codeWith m_L_wants.1 m_L_wants.2.1 m_L_wants.2.2.1 m_L_wants.2.2.2.1 hh_L_wants ∈ xx_gws := (gv_L _ (List.mem_of_getElem? (i := 63) rfl))
theorem st_L_wants : Cond.static yL_wants ∈ xx_gws := (gv_L _ (List.mem_of_getElem? (i := 62) rfl))
abbrev hh_L_priceIn : List (Nat × Nat × Nat × Nat) := [(0, 11, 14, 27)]
theorem cw_L_priceIn : Cond.codeWith m_L_priceIn.1 m_L_priceIn.2.1 m_L_priceIn.2.2.1 m_L_priceIn.2.2.2.1 hh_L_priceIn ∈ xx_gws := (gv_L _ (List.mem_of_getElem? (i := 66) rfl))
theorem st_L_priceIn : Cond.static yL_priceIn ∈ xx_gws := (gv_L _ (List.mem_of_getElem? (i := 65) rfl))
abbrev hh_L_codeIn : List (Nat × Nat × Nat × Nat) := [(0, 13, 16, 27)]
theorem cw_L_codeIn : Cond.codeWith m_L_codeIn.1 m_L_codeIn.2.1 m_L_codeIn.2.2.1 m_L_codeIn.2.2.2.1 hh_L_codeIn ∈ xx_gws := (gv_L _ (List.mem_of_getElem? (i := 69) rfl))
theorem st_L_codeIn : Cond.static yL_codeIn ∈ xx_gws := (gv_L _ (List.mem_of_getElem? (i := 68) rfl))
abbrev hh_L_ofPackage : List (Nat × Nat × Nat × Nat) := [(0, 13, 16, 27)]
theorem cw_L_ofPackage : Cond.codeWith m_L_ofPackage.1 m_L_ofPackage.2.1 m_L_ofPackage.2.2.1 m_L_ofPackage.2.2.2.1 hh_L_ofPackage ∈ xx_gws := (gv_L _ (List.mem_of_getElem? (i := 72) rfl))
theorem st_L_ofPackage : Cond.static yL_ofPackage ∈ xx_gws := (gv_L _ (List.mem_of_getElem? (i := 71) rfl))
abbrev hh_L_wins : List (Nat × Nat × Nat × Nat) := [(0, 10, 13, 27)]
theorem cw_L_wins : Cond.codeWith m_L_wins.1 m_L_wins.2.1 m_L_wins.2.2.1 m_L_wins.2.2.2.1 hh_L_wins ∈ xx_gws := (gv_L _ (List.mem_of_getElem? (i := 75) rfl))
theorem st_L_wins : Cond.static yL_wins ∈ xx_gws := (gv_L _ (List.mem_of_getElem? (i := 74) rfl))
abbrev hh_L_pays : List (Nat × Nat × Nat × Nat) := [(0, 11, 14, 27)]
theorem cw_L_pays : Cond.codeWith m_L_pays.1 m_L_pays.2.1 m_L_pays.2.2.1 m_L_pays.2.2.2.1 hh_L_pays ∈ xx_gws := (gv_L _ (List.mem_of_getElem? (i := 78) rfl))
theorem st_L_pays : Cond.static yL_pays ∈ xx_gws := (gv_L _ (List.mem_of_getElem? (i := 77) rfl))
abbrev hh_L_holder : List (Nat × Nat × Nat × Nat) := [(0, 11, 14, 27)]
theorem cw_L_holder : Cond.codeWith m_L_holder.1 m_L_holder.2.1 m_L_holder.2.2.1 m_L_holder.2.2.2.1 hh_L_holder ∈ xx_gws := (gv_L _ (List.mem_of_getElem? (i := 81) rfl))
theorem st_L_holder : Cond.static yL_holder ∈ xx_gws := (gv_L _ (List.mem_of_getElem? (i := 80) rfl))
abbrev hh_L_chart : List (Nat × Nat × Nat × Nat) := [(0, 9, 12, 27)]
theorem cw_L_chart : Cond.codeWith m_L_chart.1 m_L_chart.2.1 m_L_chart.2.2.1 m_L_chart.2.2.2.1 hh_L_chart ∈ xx_gws := (gv_L _ (List.mem_of_getElem? (i := 84) rfl))
theorem st_L_chart : Cond.static yL_chart ∈ xx_gws := (gv_L _ (List.mem_of_getElem? (i := 83) rfl))
abbrev hh_L_sale : List (Nat × Nat × Nat × Nat) := [(0, 10, 13, 19)]
theorem cw_L_sale : Cond.codeWith m_L_sale.1 m_L_sale.2.1 m_L_sale.2.2.1 m_L_sale.2.2.2.1 hh_L_sale ∈ xx_gws := (gv_L _ (List.mem_of_getElem? (i := 87) rfl))
theorem st_L_sale : Cond.static yL_sale ∈ xx_gws := (gv_L _ (List.mem_of_getElem? (i := 86) rfl))
abbrev hh_L_worth : List (Nat × Nat × Nat × Nat) := [(0, 10, 13, 19)]
theorem cw_L_worth : Cond.codeWith m_L_worth.1 m_L_worth.2.1 m_L_worth.2.2.1 m_L_worth.2.2.2.1 hh_L_worth ∈ xx_gws := (gv_L _ (List.mem_of_getElem? (i := 90) rfl))
theorem st_L_worth : Cond.static yL_worth ∈ xx_gws := (gv_L _ (List.mem_of_getElem? (i := 89) rfl))
abbrev hh_L_wouldPay : List (Nat × Nat × Nat × Nat) := [(0, 11, 14, 27), (0, 11, 18, 19)]
theorem cw_L_wouldPay : Cond.codeWith m_L_wouldPay.1 m_L_wouldPay.2.1 m_L_wouldPay.2.2.1 m_L_wouldPay.2.2.2.1 hh_L_wouldPay ∈ xx_gws := (gv_L _ (List.mem_of_getElem? (i := 93) rfl))
theorem st_L_wouldPay : Cond.static yL_wouldPay ∈ xx_gws := (gv_L _ (List.mem_of_getElem? (i := 92) rfl))
abbrev hh_L_objects : List (Nat × Nat × Nat × Nat) := [(0, 11, 14, 19)]
theorem cw_L_objects : Cond.codeWith m_L_objects.1 m_L_objects.2.1 m_L_objects.2.2.1 m_L_objects.2.2.2.1 hh_L_objects ∈ xx_gws := (gv_L _ (List.mem_of_getElem? (i := 96) rfl))
theorem st_L_objects : Cond.static yL_objects ∈ xx_gws := (gv_L _ (List.mem_of_getElem? (i := 95) rfl))
abbrev hh_L_most : List (Nat × Nat × Nat × Nat) := [(0, 11, 14, 27)]
theorem cw_L_most : Cond.codeWith m_L_most.1 m_L_most.2.1 m_L_most.2.2.1 m_L_most.2.2.2.1 hh_L_most ∈ xx_gws := (gv_L _ (List.mem_of_getElem? (i := 99) rfl))
theorem st_L_most : Cond.static yL_most ∈ xx_gws := (gv_L _ (List.mem_of_getElem? (i := 98) rfl))
abbrev hh_L_contradicts : List (Nat × Nat × Nat × Nat) := [(0, 10, 13, 27)]
theorem cw_L_contradicts : Cond.codeWith m_L_contradicts.1 m_L_contradicts.2.1 m_L_contradicts.2.2.1 m_L_contradicts.2.2.2.1 hh_L_contradicts ∈ xx_gws := (gv_L _ (List.mem_of_getElem? (i := 102) rfl))
theorem st_L_contradicts : Cond.static yL_contradicts ∈ xx_gws := (gv_L _ (List.mem_of_getElem? (i := 101) rfl))
abbrev hh_L_anew : List (Nat × Nat × Nat × Nat) := [(0, 15, 18, 27), (0, 15, 22, 19)]
theorem cw_L_anew : Cond.codeWith m_L_anew.1 m_L_anew.2.1 m_L_anew.2.2.1 m_L_anew.2.2.2.1 hh_L_anew ∈ xx_gws := (gv_L _ (List.mem_of_getElem? (i := 105) rfl))
theorem st_L_anew : Cond.static yL_anew ∈ xx_gws := (gv_L _ (List.mem_of_getElem? (i := 104) rfl))
theorem mk_L_141 : Cond.methodLink RL 141 yL_region ∈ xx_gws := (gv_L _ (List.mem_of_getElem? (i := 1) rfl))
theorem mk_L_147 : Cond.methodLink RL 147 yL_border ∈ xx_gws := (gv_L _ (List.mem_of_getElem? (i := 6) rfl))
theorem mk_L_151 : Cond.methodLink RL 151 yL_bidder ∈ xx_gws := (gv_L _ (List.mem_of_getElem? (i := 10) rfl))
theorem mk_L_155 : Cond.methodLink RL 155 yL_rules ∈ xx_gws := (gv_L _ (List.mem_of_getElem? (i := 13) rfl))
theorem mk_L_159 : Cond.methodLink RL 159 yL_step ∈ xx_gws := (gv_L _ (List.mem_of_getElem? (i := 16) rfl))
theorem mk_L_163 : Cond.methodLink RL 163 yL_open ∈ xx_gws := (gv_L _ (List.mem_of_getElem? (i := 19) rfl))
theorem mk_L_167 : Cond.methodLink RL 167 yL_wish ∈ xx_gws := (gv_L _ (List.mem_of_getElem? (i := 22) rfl))
theorem mk_L_170 : Cond.methodLink RL 170 yL_waive ∈ xx_gws := (gv_L _ (List.mem_of_getElem? (i := 25) rfl))
theorem mk_L_173 : Cond.methodLink RL 173 yL_close ∈ xx_gws := (gv_L _ (List.mem_of_getElem? (i := 28) rfl))
theorem mk_L_176 : Cond.methodLink RL 176 yL_offer ∈ xx_gws := (gv_L _ (List.mem_of_getElem? (i := 31) rfl))
theorem mk_L_179 : Cond.methodLink RL 179 yL_settle ∈ xx_gws := (gv_L _ (List.mem_of_getElem? (i := 34) rfl))
theorem mk_L_182 : Cond.methodLink RL 182 yL_fail ∈ xx_gws := (gv_L _ (List.mem_of_getElem? (i := 37) rfl))
theorem mk_L_185 : Cond.methodLink RL 185 yL_station ∈ xx_gws := (gv_L _ (List.mem_of_getElem? (i := 40) rfl))
theorem mk_L_188 : Cond.methodLink RL 188 yL_ask ∈ xx_gws := (gv_L _ (List.mem_of_getElem? (i := 43) rfl))
theorem mk_L_191 : Cond.methodLink RL 191 yL_packs ∈ xx_gws := (gv_L _ (List.mem_of_getElem? (i := 46) rfl))
theorem mk_L_197 : Cond.methodLink RL 197 yL_channel ∈ xx_gws := (gv_L _ (List.mem_of_getElem? (i := 49) rfl))
theorem mk_L_200 : Cond.methodLink RL 200 yL_clear ∈ xx_gws := (gv_L _ (List.mem_of_getElem? (i := 52) rfl))
theorem mk_L_203 : Cond.methodLink RL 203 yL_ofRegion ∈ xx_gws := (gv_L _ (List.mem_of_getElem? (i := 55) rfl))
theorem mk_L_206 : Cond.methodLink RL 206 yL_ofBidder ∈ xx_gws := (gv_L _ (List.mem_of_getElem? (i := 58) rfl))
theorem mk_L_209 : Cond.methodLink RL 209 yL_wants ∈ xx_gws := (gv_L _ (List.mem_of_getElem? (i := 61) rfl))
theorem mk_L_213 : Cond.methodLink RL 213 yL_priceIn ∈ xx_gws := (gv_L _ (List.mem_of_getElem? (i := 64) rfl))
theorem mk_L_216 : Cond.methodLink RL 216 yL_codeIn ∈ xx_gws := (gv_L _ (List.mem_of_getElem? (i := 67) rfl))
theorem mk_L_219 : Cond.methodLink RL 219 yL_ofPackage ∈ xx_gws := (gv_L _ (List.mem_of_getElem? (i := 70) rfl))
theorem mk_L_222 : Cond.methodLink RL 222 yL_wins ∈ xx_gws := (gv_L _ (List.mem_of_getElem? (i := 73) rfl))
theorem mk_L_225 : Cond.methodLink RL 225 yL_pays ∈ xx_gws := (gv_L _ (List.mem_of_getElem? (i := 76) rfl))
theorem mk_L_228 : Cond.methodLink RL 228 yL_holder ∈ xx_gws := (gv_L _ (List.mem_of_getElem? (i := 79) rfl))
theorem mk_L_231 : Cond.methodLink RL 231 yL_chart ∈ xx_gws := (gv_L _ (List.mem_of_getElem? (i := 82) rfl))
theorem mk_L_234 : Cond.methodLink RL 234 yL_sale ∈ xx_gws := (gv_L _ (List.mem_of_getElem? (i := 85) rfl))
theorem mk_L_237 : Cond.methodLink RL 237 yL_worth ∈ xx_gws := (gv_L _ (List.mem_of_getElem? (i := 88) rfl))
theorem mk_L_240 : Cond.methodLink RL 240 yL_wouldPay ∈ xx_gws := (gv_L _ (List.mem_of_getElem? (i := 91) rfl))
theorem mk_L_243 : Cond.methodLink RL 243 yL_objects ∈ xx_gws := (gv_L _ (List.mem_of_getElem? (i := 94) rfl))
theorem mk_L_246 : Cond.methodLink RL 246 yL_most ∈ xx_gws := (gv_L _ (List.mem_of_getElem? (i := 97) rfl))
theorem mk_L_249 : Cond.methodLink RL 249 yL_contradicts ∈ xx_gws := (gv_L _ (List.mem_of_getElem? (i := 100) rfl))
theorem mk_L_252 : Cond.methodLink RL 252 yL_anew ∈ xx_gws := (gv_L _ (List.mem_of_getElem? (i := 103) rfl))
theorem ch_L_region : xx_ceH m_L_region hh_L_region := ⟨cw_L_region, in_RL, ⟨by decide, by decide⟩, by decide +kernel, by decide⟩
theorem ch_L_border : xx_ceH m_L_border hh_L_border := ⟨cw_L_border, in_RL, ⟨by decide, by decide⟩, by decide +kernel, by decide⟩
theorem ch_L_bidder : xx_ceH m_L_bidder hh_L_bidder := ⟨cw_L_bidder, in_RL, ⟨by decide, by decide⟩, by decide +kernel, by decide⟩
theorem ch_L_rules : xx_ceH m_L_rules hh_L_rules := ⟨cw_L_rules, in_RL, ⟨by decide, by decide⟩, by decide +kernel, by decide⟩
theorem ch_L_step : xx_ceH m_L_step hh_L_step := ⟨cw_L_step, in_RL, ⟨by decide, by decide⟩, by decide +kernel, by decide⟩
theorem ch_L_open : xx_ceH m_L_open hh_L_open := ⟨cw_L_open, in_RL, ⟨by decide, by decide⟩, by decide +kernel, by decide⟩
theorem ch_L_wish : xx_ceH m_L_wish hh_L_wish := ⟨cw_L_wish, in_RL, ⟨by decide, by decide⟩, by decide +kernel, by decide⟩
theorem ch_L_waive : xx_ceH m_L_waive hh_L_waive := ⟨cw_L_waive, in_RL, ⟨by decide, by decide⟩, by decide +kernel, by decide⟩
theorem ch_L_close : xx_ceH m_L_close hh_L_close := ⟨cw_L_close, in_RL, ⟨by decide, by decide⟩, by decide +kernel, by decide⟩
theorem ch_L_offer : xx_ceH m_L_offer hh_L_offer := ⟨cw_L_offer, in_RL, ⟨by decide, by decide⟩, by decide +kernel, by decide⟩
theorem ch_L_settle : xx_ceH m_L_settle hh_L_settle := ⟨cw_L_settle, in_RL, ⟨by decide, by decide⟩, by decide +kernel, by decide⟩
theorem ch_L_fail : xx_ceH m_L_fail hh_L_fail := ⟨cw_L_fail, in_RL, ⟨by decide, by decide⟩, by decide +kernel, by decide⟩
theorem ch_L_station : xx_ceH m_L_station hh_L_station := ⟨cw_L_station, in_RL, ⟨by decide, by decide⟩, by decide +kernel, by decide⟩
theorem ch_L_ask : xx_ceH m_L_ask hh_L_ask := ⟨cw_L_ask, in_RL, ⟨by decide, by decide⟩, by decide +kernel, by decide⟩
theorem ch_L_packs : xx_ceH m_L_packs hh_L_packs := ⟨cw_L_packs, in_RL, ⟨by decide, by decide⟩, by decide +kernel, by decide⟩
theorem ch_L_channel : xx_ceH m_L_channel hh_L_channel := ⟨cw_L_channel, in_RL, ⟨by decide, by decide⟩, by decide +kernel, by decide⟩
theorem ch_L_clear : xx_ceH m_L_clear hh_L_clear := ⟨cw_L_clear, in_RL, ⟨by decide, by decide⟩, by decide +kernel, by decide⟩
theorem ch_L_ofRegion : xx_ceH m_L_ofRegion hh_L_ofRegion := ⟨cw_L_ofRegion, in_RL, ⟨by decide, by decide⟩, by decide +kernel, by decide⟩
theorem ch_L_ofBidder : xx_ceH m_L_ofBidder hh_L_ofBidder := ⟨cw_L_ofBidder, in_RL, ⟨by decide, by decide⟩, by decide +kernel, by decide⟩
theorem ch_L_wants : xx_ceH m_L_wants hh_L_wants := ⟨cw_L_wants, in_RL, ⟨by decide, by decide⟩, by decide +kernel, by decide⟩
theorem ch_L_priceIn : xx_ceH m_L_priceIn hh_L_priceIn := ⟨cw_L_priceIn, in_RL, ⟨by decide, by decide⟩, by decide +kernel, by decide⟩
theorem ch_L_codeIn : xx_ceH m_L_codeIn hh_L_codeIn := ⟨cw_L_codeIn, in_RL, ⟨by decide, by decide⟩, by decide +kernel, by decide⟩
theorem ch_L_ofPackage : xx_ceH m_L_ofPackage hh_L_ofPackage := ⟨cw_L_ofPackage, in_RL, ⟨by decide, by decide⟩, by decide +kernel, by decide⟩
theorem ch_L_wins : xx_ceH m_L_wins hh_L_wins := ⟨cw_L_wins, in_RL, ⟨by decide, by decide⟩, by decide +kernel, by decide⟩
theorem ch_L_pays : xx_ceH m_L_pays hh_L_pays := ⟨cw_L_pays, in_RL, ⟨by decide, by decide⟩, by decide +kernel, by decide⟩
theorem ch_L_holder : xx_ceH m_L_holder hh_L_holder := ⟨cw_L_holder, in_RL, ⟨by decide, by decide⟩, by decide +kernel, by decide⟩
theorem ch_L_chart : xx_ceH m_L_chart hh_L_chart := ⟨cw_L_chart, in_RL, ⟨by decide, by decide⟩, by decide +kernel, by decide⟩
theorem ch_L_sale : xx_ceH m_L_sale hh_L_sale := ⟨cw_L_sale, in_RL, ⟨by decide, by decide⟩, by decide +kernel, by decide⟩
theorem ch_L_worth : xx_ceH m_L_worth hh_L_worth := ⟨cw_L_worth, in_RL, ⟨by decide, by decide⟩, by decide +kernel, by decide⟩
theorem ch_L_wouldPay : xx_ceH m_L_wouldPay hh_L_wouldPay := ⟨cw_L_wouldPay, in_RL, ⟨by decide, by decide⟩, by decide +kernel, by decide⟩
theorem ch_L_objects : xx_ceH m_L_objects hh_L_objects := ⟨cw_L_objects, in_RL, ⟨by decide, by decide⟩, by decide +kernel, by decide⟩
theorem ch_L_most : xx_ceH m_L_most hh_L_most := ⟨cw_L_most, in_RL, ⟨by decide, by decide⟩, by decide +kernel, by decide⟩
theorem ch_L_contradicts : xx_ceH m_L_contradicts hh_L_contradicts := ⟨cw_L_contradicts, in_RL, ⟨by decide, by decide⟩, by decide +kernel, by decide⟩
theorem ch_L_anew : xx_ceH m_L_anew hh_L_anew := ⟨cw_L_anew, in_RL, ⟨by decide, by decide⟩, by decide +kernel, by decide⟩
noncomputable def dt_L_region : List (Nat × Instr × Nat) := [(0, .aload 4, 2), (2, .aload_n 0, 1), (3, .iload_n 1, 1), (4, .iload_n 2, 1), (5, .iload_n 3, 1), (6, .invokevirtual 7, 3), (9, .i2l, 1), (10, .putfield 13, 3), (13, .goto 11, 3), (16, .astore 5, 2), (18, .iconst 1, 1), (19, .ireturn, 1), (20, .astore 5, 2), (22, .iconst 2, 1), (23, .ireturn, 1), (24, .iconst 0, 1), (25, .ireturn, 1)]
theorem dd_L_region : ∀ q ∈ dt_L_region, decode cL_region q.1 = .ok q.2 := by
  first
  | (refine dw_all ?_; decide +kernel)
  | decide +kernel
noncomputable def dt_L_border : List (Nat × Instr × Nat) := [(0, .aload_n 3, 1), (1, .aload_n 0, 1), (2, .iload_n 1, 1), (3, .iload_n 2, 1), (4, .invokevirtual 23, 3), (7, .i2l, 1), (8, .putfield 13, 3), (11, .goto 15, 3), (14, .astore 4, 2), (16, .iconst 1, 1), (17, .ireturn, 1), (18, .astore 4, 2), (20, .iconst 2, 1), (21, .ireturn, 1), (22, .astore 4, 2), (24, .iconst 3, 1), (25, .ireturn, 1), (26, .iconst 0, 1), (27, .ireturn, 1)]
theorem dd_L_border : ∀ q ∈ dt_L_border, decode cL_border q.1 = .ok q.2 := by
  first
  | (refine dw_all ?_; decide +kernel)
  | decide +kernel
noncomputable def dt_L_bidder : List (Nat × Instr × Nat) := [(0, .aload 5, 2), (2, .aload_n 0, 1), (3, .iload_n 1, 1), (4, .iload_n 2, 1), (5, .iload_n 3, 1), (6, .iload 4, 2), (8, .invokevirtual 29, 3), (11, .i2l, 1), (12, .putfield 13, 3), (15, .goto 11, 3), (18, .astore 6, 2), (20, .iconst 1, 1), (21, .ireturn, 1), (22, .astore 6, 2), (24, .iconst 2, 1), (25, .ireturn, 1), (26, .iconst 0, 1), (27, .ireturn, 1)]
theorem dd_L_bidder : ∀ q ∈ dt_L_bidder, decode cL_bidder q.1 = .ok q.2 := by
  first
  | (refine dw_all ?_; decide +kernel)
  | decide +kernel
noncomputable def dt_L_rules : List (Nat × Instr × Nat) := [(0, .aload_n 3, 1), (1, .aload_n 0, 1), (2, .iload_n 1, 1), (3, .iload_n 2, 1), (4, .invokevirtual 33, 3), (7, .i2l, 1), (8, .putfield 13, 3), (11, .goto 11, 3), (14, .astore 4, 2), (16, .iconst 1, 1), (17, .ireturn, 1), (18, .astore 4, 2), (20, .iconst 2, 1), (21, .ireturn, 1), (22, .iconst 0, 1), (23, .ireturn, 1)]
theorem dd_L_rules : ∀ q ∈ dt_L_rules, decode cL_rules q.1 = .ok q.2 := by
  first
  | (refine dw_all ?_; decide +kernel)
  | decide +kernel
noncomputable def dt_L_step : List (Nat × Instr × Nat) := [(0, .aload_n 2, 1), (1, .aload_n 0, 1), (2, .iload_n 1, 1), (3, .invokevirtual 37, 3), (6, .i2l, 1), (7, .putfield 13, 3), (10, .goto 9, 3), (13, .astore_n 3, 1), (14, .iconst 1, 1), (15, .ireturn, 1), (16, .astore_n 3, 1), (17, .iconst 2, 1), (18, .ireturn, 1), (19, .iconst 0, 1), (20, .ireturn, 1)]
theorem dd_L_step : ∀ q ∈ dt_L_step, decode cL_step q.1 = .ok q.2 := by
  first
  | (refine dw_all ?_; decide +kernel)
  | decide +kernel
noncomputable def dt_L_open : List (Nat × Instr × Nat) := [(0, .aload_n 1, 1), (1, .aload_n 0, 1), (2, .invokevirtual 41, 3), (5, .i2l, 1), (6, .putfield 13, 3), (9, .goto 6, 3), (12, .astore_n 2, 1), (13, .iconst 1, 1), (14, .ireturn, 1), (15, .iconst 0, 1), (16, .ireturn, 1)]
theorem dd_L_open : ∀ q ∈ dt_L_open, decode cL_open q.1 = .ok q.2 := by
  first
  | (refine dw_all ?_; decide +kernel)
  | decide +kernel
noncomputable def dt_L_wish : List (Nat × Instr × Nat) := [(0, .aload 4, 2), (2, .aload_n 0, 1), (3, .iload_n 1, 1), (4, .iload_n 2, 1), (5, .iload_n 3, 1), (6, .invokevirtual 45, 3), (9, .i2l, 1), (10, .putfield 13, 3), (13, .goto 15, 3), (16, .astore 5, 2), (18, .iconst 1, 1), (19, .ireturn, 1), (20, .astore 5, 2), (22, .iconst 2, 1), (23, .ireturn, 1), (24, .astore 5, 2), (26, .iconst 3, 1), (27, .ireturn, 1), (28, .iconst 0, 1), (29, .ireturn, 1)]
theorem dd_L_wish : ∀ q ∈ dt_L_wish, decode cL_wish q.1 = .ok q.2 := by
  first
  | (refine dw_all ?_; decide +kernel)
  | decide +kernel
noncomputable def dt_L_waive : List (Nat × Instr × Nat) := [(0, .aload_n 2, 1), (1, .aload_n 0, 1), (2, .iload_n 1, 1), (3, .invokevirtual 48, 3), (6, .i2l, 1), (7, .putfield 13, 3), (10, .goto 9, 3), (13, .astore_n 3, 1), (14, .iconst 1, 1), (15, .ireturn, 1), (16, .astore_n 3, 1), (17, .iconst 2, 1), (18, .ireturn, 1), (19, .iconst 0, 1), (20, .ireturn, 1)]
theorem dd_L_waive : ∀ q ∈ dt_L_waive, decode cL_waive q.1 = .ok q.2 := by
  first
  | (refine dw_all ?_; decide +kernel)
  | decide +kernel
noncomputable def dt_L_close : List (Nat × Instr × Nat) := [(0, .aload_n 2, 1), (1, .aload_n 0, 1), (2, .iload_n 1, 1), (3, .invokevirtual 51, 3), (6, .i2l, 1), (7, .putfield 13, 3), (10, .goto 9, 3), (13, .astore_n 3, 1), (14, .iconst 1, 1), (15, .ireturn, 1), (16, .astore_n 3, 1), (17, .iconst 2, 1), (18, .ireturn, 1), (19, .iconst 0, 1), (20, .ireturn, 1)]
theorem dd_L_close : ∀ q ∈ dt_L_close, decode cL_close q.1 = .ok q.2 := by
  first
  | (refine dw_all ?_; decide +kernel)
  | decide +kernel
noncomputable def dt_L_offer : List (Nat × Instr × Nat) := [(0, .aload 4, 2), (2, .aload_n 0, 1), (3, .iload_n 1, 1), (4, .iload_n 2, 1), (5, .iload_n 3, 1), (6, .invokevirtual 54, 3), (9, .i2l, 1), (10, .putfield 13, 3), (13, .goto 15, 3), (16, .astore 5, 2), (18, .iconst 1, 1), (19, .ireturn, 1), (20, .astore 5, 2), (22, .iconst 2, 1), (23, .ireturn, 1), (24, .astore 5, 2), (26, .iconst 3, 1), (27, .ireturn, 1), (28, .iconst 0, 1), (29, .ireturn, 1)]
theorem dd_L_offer : ∀ q ∈ dt_L_offer, decode cL_offer q.1 = .ok q.2 := by
  first
  | (refine dw_all ?_; decide +kernel)
  | decide +kernel
noncomputable def dt_L_settle : List (Nat × Instr × Nat) := [(0, .aload_n 2, 1), (1, .aload_n 0, 1), (2, .iload_n 1, 1), (3, .invokevirtual 57, 3), (6, .i2l, 1), (7, .putfield 13, 3), (10, .goto 9, 3), (13, .astore_n 3, 1), (14, .iconst 1, 1), (15, .ireturn, 1), (16, .astore_n 3, 1), (17, .iconst 2, 1), (18, .ireturn, 1), (19, .iconst 0, 1), (20, .ireturn, 1)]
theorem dd_L_settle : ∀ q ∈ dt_L_settle, decode cL_settle q.1 = .ok q.2 := by
  first
  | (refine dw_all ?_; decide +kernel)
  | decide +kernel
noncomputable def dt_L_fail : List (Nat × Instr × Nat) := [(0, .aload_n 2, 1), (1, .aload_n 0, 1), (2, .iload_n 1, 1), (3, .invokevirtual 60, 3), (6, .i2l, 1), (7, .putfield 13, 3), (10, .goto 9, 3), (13, .astore_n 3, 1), (14, .iconst 1, 1), (15, .ireturn, 1), (16, .astore_n 3, 1), (17, .iconst 2, 1), (18, .ireturn, 1), (19, .iconst 0, 1), (20, .ireturn, 1)]
theorem dd_L_fail : ∀ q ∈ dt_L_fail, decode cL_fail q.1 = .ok q.2 := by
  first
  | (refine dw_all ?_; decide +kernel)
  | decide +kernel
noncomputable def dt_L_station : List (Nat × Instr × Nat) := [(0, .aload_n 3, 1), (1, .aload_n 0, 1), (2, .iload_n 1, 1), (3, .iload_n 2, 1), (4, .invokevirtual 63, 3), (7, .i2l, 1), (8, .putfield 13, 3), (11, .goto 15, 3), (14, .astore 4, 2), (16, .iconst 1, 1), (17, .ireturn, 1), (18, .astore 4, 2), (20, .iconst 2, 1), (21, .ireturn, 1), (22, .astore 4, 2), (24, .iconst 3, 1), (25, .ireturn, 1), (26, .iconst 0, 1), (27, .ireturn, 1)]
theorem dd_L_station : ∀ q ∈ dt_L_station, decode cL_station q.1 = .ok q.2 := by
  first
  | (refine dw_all ?_; decide +kernel)
  | decide +kernel
noncomputable def dt_L_ask : List (Nat × Instr × Nat) := [(0, .aload_n 3, 1), (1, .aload_n 0, 1), (2, .iload_n 1, 1), (3, .iload_n 2, 1), (4, .invokevirtual 66, 3), (7, .i2l, 1), (8, .putfield 13, 3), (11, .goto 11, 3), (14, .astore 4, 2), (16, .iconst 1, 1), (17, .ireturn, 1), (18, .astore 4, 2), (20, .iconst 2, 1), (21, .ireturn, 1), (22, .iconst 0, 1), (23, .ireturn, 1)]
theorem dd_L_ask : ∀ q ∈ dt_L_ask, decode cL_ask q.1 = .ok q.2 := by
  first
  | (refine dw_all ?_; decide +kernel)
  | decide +kernel
noncomputable def dt_L_packs : List (Nat × Instr × Nat) := [(0, .aload_n 3, 1), (1, .aload_n 0, 1), (2, .iload_n 1, 1), (3, .iload_n 2, 1), (4, .invokevirtual 69, 3), (7, .ifCond .eq 7, 3), (10, .lconst 1, 1), (11, .goto 4, 3), (14, .lconst 0, 1), (15, .putfield 13, 3), (18, .goto 7, 3), (21, .astore 4, 2), (23, .iconst 1, 1), (24, .ireturn, 1), (25, .iconst 0, 1), (26, .ireturn, 1)]
theorem dd_L_packs : ∀ q ∈ dt_L_packs, decode cL_packs q.1 = .ok q.2 := by
  first
  | (refine dw_all ?_; decide +kernel)
  | decide +kernel
noncomputable def dt_L_channel : List (Nat × Instr × Nat) := [(0, .aload 4, 2), (2, .aload_n 0, 1), (3, .iload_n 1, 1), (4, .iload_n 2, 1), (5, .iload_n 3, 1), (6, .invokevirtual 73, 3), (9, .i2l, 1), (10, .putfield 13, 3), (13, .goto 11, 3), (16, .astore 5, 2), (18, .iconst 1, 1), (19, .ireturn, 1), (20, .astore 5, 2), (22, .iconst 2, 1), (23, .ireturn, 1), (24, .iconst 0, 1), (25, .ireturn, 1)]
theorem dd_L_channel : ∀ q ∈ dt_L_channel, decode cL_channel q.1 = .ok q.2 := by
  first
  | (refine dw_all ?_; decide +kernel)
  | decide +kernel
noncomputable def dt_L_clear : List (Nat × Instr × Nat) := [(0, .aload_n 2, 1), (1, .aload_n 0, 1), (2, .iload_n 1, 1), (3, .invokevirtual 76, 3), (6, .i2l, 1), (7, .putfield 13, 3), (10, .goto 6, 3), (13, .astore_n 3, 1), (14, .iconst 1, 1), (15, .ireturn, 1), (16, .iconst 0, 1), (17, .ireturn, 1)]
theorem dd_L_clear : ∀ q ∈ dt_L_clear, decode cL_clear q.1 = .ok q.2 := by
  first
  | (refine dw_all ?_; decide +kernel)
  | decide +kernel
noncomputable def dt_L_ofRegion : List (Nat × Instr × Nat) := [(0, .aload_n 3, 1), (1, .aload_n 0, 1), (2, .iload_n 1, 1), (3, .iload_n 2, 1), (4, .invokevirtual 79, 3), (7, .i2l, 1), (8, .putfield 13, 3), (11, .goto 11, 3), (14, .astore 4, 2), (16, .iconst 1, 1), (17, .ireturn, 1), (18, .astore 4, 2), (20, .iconst 2, 1), (21, .ireturn, 1), (22, .iconst 0, 1), (23, .ireturn, 1)]
theorem dd_L_ofRegion : ∀ q ∈ dt_L_ofRegion, decode cL_ofRegion q.1 = .ok q.2 := by
  first
  | (refine dw_all ?_; decide +kernel)
  | decide +kernel
noncomputable def dt_L_ofBidder : List (Nat × Instr × Nat) := [(0, .aload_n 3, 1), (1, .aload_n 0, 1), (2, .iload_n 1, 1), (3, .iload_n 2, 1), (4, .invokevirtual 82, 3), (7, .i2l, 1), (8, .putfield 13, 3), (11, .goto 11, 3), (14, .astore 4, 2), (16, .iconst 1, 1), (17, .ireturn, 1), (18, .astore 4, 2), (20, .iconst 2, 1), (21, .ireturn, 1), (22, .iconst 0, 1), (23, .ireturn, 1)]
theorem dd_L_ofBidder : ∀ q ∈ dt_L_ofBidder, decode cL_ofBidder q.1 = .ok q.2 := by
  first
  | (refine dw_all ?_; decide +kernel)
  | decide +kernel
noncomputable def dt_L_wants : List (Nat × Instr × Nat) := [(0, .aload 4, 2), (2, .aload_n 0, 1), (3, .iload_n 1, 1), (4, .iload_n 2, 1), (5, .iload_n 3, 1), (6, .invokevirtual 85, 3), (9, .i2l, 1), (10, .putfield 13, 3), (13, .goto 7, 3), (16, .astore 5, 2), (18, .iconst 1, 1), (19, .ireturn, 1), (20, .iconst 0, 1), (21, .ireturn, 1)]
theorem dd_L_wants : ∀ q ∈ dt_L_wants, decode cL_wants q.1 = .ok q.2 := by
  first
  | (refine dw_all ?_; decide +kernel)
  | decide +kernel
noncomputable def dt_L_priceIn : List (Nat × Instr × Nat) := [(0, .aload_n 3, 1), (1, .aload_n 0, 1), (2, .iload_n 1, 1), (3, .iload_n 2, 1), (4, .invokevirtual 89, 3), (7, .i2l, 1), (8, .putfield 13, 3), (11, .goto 7, 3), (14, .astore 4, 2), (16, .iconst 1, 1), (17, .ireturn, 1), (18, .iconst 0, 1), (19, .ireturn, 1)]
theorem dd_L_priceIn : ∀ q ∈ dt_L_priceIn, decode cL_priceIn q.1 = .ok q.2 := by
  first
  | (refine dw_all ?_; decide +kernel)
  | decide +kernel
noncomputable def dt_L_codeIn : List (Nat × Instr × Nat) := [(0, .aload 4, 2), (2, .aload_n 0, 1), (3, .iload_n 1, 1), (4, .iload_n 2, 1), (5, .iload_n 3, 1), (6, .invokevirtual 92, 3), (9, .i2l, 1), (10, .putfield 13, 3), (13, .goto 7, 3), (16, .astore 5, 2), (18, .iconst 1, 1), (19, .ireturn, 1), (20, .iconst 0, 1), (21, .ireturn, 1)]
theorem dd_L_codeIn : ∀ q ∈ dt_L_codeIn, decode cL_codeIn q.1 = .ok q.2 := by
  first
  | (refine dw_all ?_; decide +kernel)
  | decide +kernel
noncomputable def dt_L_ofPackage : List (Nat × Instr × Nat) := [(0, .aload 4, 2), (2, .aload_n 0, 1), (3, .iload_n 1, 1), (4, .iload_n 2, 1), (5, .iload_n 3, 1), (6, .invokevirtual 95, 3), (9, .i2l, 1), (10, .putfield 13, 3), (13, .goto 7, 3), (16, .astore 5, 2), (18, .iconst 1, 1), (19, .ireturn, 1), (20, .iconst 0, 1), (21, .ireturn, 1)]
theorem dd_L_ofPackage : ∀ q ∈ dt_L_ofPackage, decode cL_ofPackage q.1 = .ok q.2 := by
  first
  | (refine dw_all ?_; decide +kernel)
  | decide +kernel
noncomputable def dt_L_wins : List (Nat × Instr × Nat) := [(0, .aload_n 2, 1), (1, .aload_n 0, 1), (2, .iload_n 1, 1), (3, .invokevirtual 98, 3), (6, .i2l, 1), (7, .putfield 13, 3), (10, .goto 6, 3), (13, .astore_n 3, 1), (14, .iconst 1, 1), (15, .ireturn, 1), (16, .iconst 0, 1), (17, .ireturn, 1)]
theorem dd_L_wins : ∀ q ∈ dt_L_wins, decode cL_wins q.1 = .ok q.2 := by
  first
  | (refine dw_all ?_; decide +kernel)
  | decide +kernel
noncomputable def dt_L_pays : List (Nat × Instr × Nat) := [(0, .aload_n 3, 1), (1, .aload_n 0, 1), (2, .iload_n 1, 1), (3, .iload_n 2, 1), (4, .invokevirtual 101, 3), (7, .i2l, 1), (8, .putfield 13, 3), (11, .goto 7, 3), (14, .astore 4, 2), (16, .iconst 1, 1), (17, .ireturn, 1), (18, .iconst 0, 1), (19, .ireturn, 1)]
theorem dd_L_pays : ∀ q ∈ dt_L_pays, decode cL_pays q.1 = .ok q.2 := by
  first
  | (refine dw_all ?_; decide +kernel)
  | decide +kernel
noncomputable def dt_L_holder : List (Nat × Instr × Nat) := [(0, .aload_n 3, 1), (1, .aload_n 0, 1), (2, .iload_n 1, 1), (3, .iload_n 2, 1), (4, .invokevirtual 104, 3), (7, .i2l, 1), (8, .putfield 13, 3), (11, .goto 7, 3), (14, .astore 4, 2), (16, .iconst 1, 1), (17, .ireturn, 1), (18, .iconst 0, 1), (19, .ireturn, 1)]
theorem dd_L_holder : ∀ q ∈ dt_L_holder, decode cL_holder q.1 = .ok q.2 := by
  first
  | (refine dw_all ?_; decide +kernel)
  | decide +kernel
noncomputable def dt_L_chart : List (Nat × Instr × Nat) := [(0, .aload_n 2, 1), (1, .aload_n 0, 1), (2, .iload_n 1, 1), (3, .invokevirtual 107, 3), (6, .putfield 111, 3), (9, .goto 6, 3), (12, .astore_n 3, 1), (13, .iconst 1, 1), (14, .ireturn, 1), (15, .iconst 0, 1), (16, .ireturn, 1)]
theorem dd_L_chart : ∀ q ∈ dt_L_chart, decode cL_chart q.1 = .ok q.2 := by
  first
  | (refine dw_all ?_; decide +kernel)
  | decide +kernel
noncomputable def dt_L_sale : List (Nat × Instr × Nat) := [(0, .aload_n 2, 1), (1, .aload_n 0, 1), (2, .iload_n 1, 1), (3, .invokevirtual 115, 3), (6, .i2l, 1), (7, .putfield 13, 3), (10, .goto 6, 3), (13, .astore_n 3, 1), (14, .iconst 1, 1), (15, .ireturn, 1), (16, .iconst 0, 1), (17, .ireturn, 1)]
theorem dd_L_sale : ∀ q ∈ dt_L_sale, decode cL_sale q.1 = .ok q.2 := by
  first
  | (refine dw_all ?_; decide +kernel)
  | decide +kernel
noncomputable def dt_L_worth : List (Nat × Instr × Nat) := [(0, .aload_n 2, 1), (1, .aload_n 0, 1), (2, .iload_n 1, 1), (3, .invokevirtual 118, 3), (6, .i2l, 1), (7, .putfield 13, 3), (10, .goto 6, 3), (13, .astore_n 3, 1), (14, .iconst 1, 1), (15, .ireturn, 1), (16, .iconst 0, 1), (17, .ireturn, 1)]
theorem dd_L_worth : ∀ q ∈ dt_L_worth, decode cL_worth q.1 = .ok q.2 := by
  first
  | (refine dw_all ?_; decide +kernel)
  | decide +kernel
noncomputable def dt_L_wouldPay : List (Nat × Instr × Nat) := [(0, .aload_n 3, 1), (1, .aload_n 0, 1), (2, .iload_n 1, 1), (3, .iload_n 2, 1), (4, .invokevirtual 121, 3), (7, .i2l, 1), (8, .putfield 13, 3), (11, .goto 11, 3), (14, .astore 4, 2), (16, .iconst 1, 1), (17, .ireturn, 1), (18, .astore 4, 2), (20, .iconst 2, 1), (21, .ireturn, 1), (22, .iconst 0, 1), (23, .ireturn, 1)]
theorem dd_L_wouldPay : ∀ q ∈ dt_L_wouldPay, decode cL_wouldPay q.1 = .ok q.2 := by
  first
  | (refine dw_all ?_; decide +kernel)
  | decide +kernel
noncomputable def dt_L_objects : List (Nat × Instr × Nat) := [(0, .aload_n 3, 1), (1, .aload_n 0, 1), (2, .iload_n 1, 1), (3, .iload_n 2, 1), (4, .invokevirtual 124, 3), (7, .i2l, 1), (8, .putfield 13, 3), (11, .goto 7, 3), (14, .astore 4, 2), (16, .iconst 1, 1), (17, .ireturn, 1), (18, .iconst 0, 1), (19, .ireturn, 1)]
theorem dd_L_objects : ∀ q ∈ dt_L_objects, decode cL_objects q.1 = .ok q.2 := by
  first
  | (refine dw_all ?_; decide +kernel)
  | decide +kernel
noncomputable def dt_L_most : List (Nat × Instr × Nat) := [(0, .aload_n 3, 1), (1, .aload_n 0, 1), (2, .iload_n 1, 1), (3, .iload_n 2, 1), (4, .invokevirtual 127, 3), (7, .i2l, 1), (8, .putfield 13, 3), (11, .goto 7, 3), (14, .astore 4, 2), (16, .iconst 1, 1), (17, .ireturn, 1), (18, .iconst 0, 1), (19, .ireturn, 1)]
theorem dd_L_most : ∀ q ∈ dt_L_most, decode cL_most q.1 = .ok q.2 := by
  first
  | (refine dw_all ?_; decide +kernel)
  | decide +kernel
noncomputable def dt_L_contradicts : List (Nat × Instr × Nat) := [(0, .aload_n 2, 1), (1, .aload_n 0, 1), (2, .iload_n 1, 1), (3, .invokevirtual 130, 3), (6, .i2l, 1), (7, .putfield 13, 3), (10, .goto 6, 3), (13, .astore_n 3, 1), (14, .iconst 1, 1), (15, .ireturn, 1), (16, .iconst 0, 1), (17, .ireturn, 1)]
theorem dd_L_contradicts : ∀ q ∈ dt_L_contradicts, decode cL_contradicts q.1 = .ok q.2 := by
  first
  | (refine dw_all ?_; decide +kernel)
  | decide +kernel
noncomputable def dt_L_anew : List (Nat × Instr × Nat) := [(0, .aload 5, 2), (2, .aload_n 0, 1), (3, .iload_n 1, 1), (4, .iload_n 2, 1), (5, .iload_n 3, 1), (6, .iload 4, 2), (8, .invokevirtual 133, 3), (11, .i2l, 1), (12, .putfield 13, 3), (15, .goto 11, 3), (18, .astore 6, 2), (20, .iconst 1, 1), (21, .ireturn, 1), (22, .astore 6, 2), (24, .iconst 2, 1), (25, .ireturn, 1), (26, .iconst 0, 1), (27, .ireturn, 1)]
theorem dd_L_anew : ∀ q ∈ dt_L_anew, decode cL_anew q.1 = .ok q.2 := by
  first
  | (refine dw_all ?_; decide +kernel)
  | decide +kernel
noncomputable def dt_L_law_0 : List (Nat × Instr × Nat) := [(0, .new 8, 3), (3, .dup, 1), (4, .invokespecial 136, 3), (7, .astore_n 1, 1), (8, .new 137, 3), (11, .dup, 1), (12, .invokespecial 139, 3), (15, .astore_n 2, 1), (16, .new 14, 3), (19, .dup, 1), (20, .invokespecial 140, 3), (23, .astore_n 3, 1), (24, .iconst 0, 1), (25, .istore 4, 2), (27, .iload 4, 2), (29, .aload_n 0, 1), (30, .arraylength, 1), (31, .iconst 5, 1), (32, .isub, 1), (33, .if_icmp .gt 1668, 3), (36, .aload_n 0, 1), (37, .iload 4, 2), (39, .iaload, 1), (40, .bipush 63, 2), (42, .iand, 1), (43, .tableswitch 1652 0 36 #[161, 213, 253, 317, 373, 401, 417, 469, 497, 525, 577, 605, 633, 673, 713, 789, 841, 869, 909, 949, 1017, 1057, 1125, 1193, 1221, 1277, 1317, 1345, 1373, 1401, 1441, 1481, 1521, 1549, 1613, 1626, 1639], 161), (204, .aload_n 1, 1), (205, .aload_n 0, 1), (206, .iload 4, 2), (208, .iconst 1, 1), (209, .iadd, 1), (210, .iaload, 1), (211, .aload_n 0, 1), (212, .iload 4, 2), (214, .iconst 2, 1), (215, .iadd, 1), (216, .iaload, 1), (217, .aload_n 0, 1), (218, .iload 4, 2), (220, .iconst 3, 1), (221, .iadd, 1), (222, .iaload, 1), (223, .aload_n 3, 1), (224, .invokestatic 141, 3), (227, .istore 5, 2), (229, .aload_n 2, 1), (230, .aload_n 0, 1), (231, .iload 4, 2), (233, .iconst 1, 1), (234, .iadd, 1), (235, .iaload, 1), (236, .aload_n 0, 1), (237, .iload 4, 2), (239, .iconst 2, 1), (240, .iadd, 1), (241, .iaload, 1), (242, .aload_n 0, 1), (243, .iload 4, 2), (245, .iconst 3, 1), (246, .iadd, 1)]
theorem dd_L_law_0 : ∀ q ∈ dt_L_law_0, decode cL_law q.1 = .ok q.2 := by
  first
  | (refine dw_all ?_; decide +kernel)
  | decide +kernel
noncomputable def dt_L_law_1 : List (Nat × Instr × Nat) := [(247, .iaload, 1), (248, .invokevirtual 146, 3), (251, .istore 6, 2), (253, .goto 1442, 3), (256, .aload_n 1, 1), (257, .aload_n 0, 1), (258, .iload 4, 2), (260, .iconst 1, 1), (261, .iadd, 1), (262, .iaload, 1), (263, .aload_n 0, 1), (264, .iload 4, 2), (266, .iconst 2, 1), (267, .iadd, 1), (268, .iaload, 1), (269, .aload_n 3, 1), (270, .invokestatic 147, 3), (273, .istore 5, 2), (275, .aload_n 2, 1), (276, .aload_n 0, 1), (277, .iload 4, 2), (279, .iconst 1, 1), (280, .iadd, 1), (281, .iaload, 1), (282, .aload_n 0, 1), (283, .iload 4, 2), (285, .iconst 2, 1), (286, .iadd, 1), (287, .iaload, 1), (288, .invokevirtual 150, 3), (291, .istore 6, 2), (293, .goto 1402, 3), (296, .aload_n 1, 1), (297, .aload_n 0, 1), (298, .iload 4, 2), (300, .iconst 1, 1), (301, .iadd, 1), (302, .iaload, 1), (303, .aload_n 0, 1), (304, .iload 4, 2), (306, .iconst 2, 1), (307, .iadd, 1), (308, .iaload, 1), (309, .aload_n 0, 1), (310, .iload 4, 2), (312, .iconst 3, 1), (313, .iadd, 1), (314, .iaload, 1), (315, .aload_n 0, 1), (316, .iload 4, 2), (318, .iconst 4, 1), (319, .iadd, 1), (320, .iaload, 1), (321, .aload_n 3, 1), (322, .invokestatic 151, 3), (325, .istore 5, 2), (327, .aload_n 2, 1), (328, .aload_n 0, 1), (329, .iload 4, 2), (331, .iconst 1, 1)]
theorem dd_L_law_1 : ∀ q ∈ dt_L_law_1, decode cL_law q.1 = .ok q.2 := by
  first
  | (refine dw_all ?_; decide +kernel)
  | decide +kernel
noncomputable def dt_L_law_2 : List (Nat × Instr × Nat) := [(332, .iadd, 1), (333, .iaload, 1), (334, .aload_n 0, 1), (335, .iload 4, 2), (337, .iconst 2, 1), (338, .iadd, 1), (339, .iaload, 1), (340, .aload_n 0, 1), (341, .iload 4, 2), (343, .iconst 3, 1), (344, .iadd, 1), (345, .iaload, 1), (346, .aload_n 0, 1), (347, .iload 4, 2), (349, .iconst 4, 1), (350, .iadd, 1), (351, .iaload, 1), (352, .invokevirtual 154, 3), (355, .istore 6, 2), (357, .goto 1338, 3), (360, .aload_n 1, 1), (361, .aload_n 0, 1), (362, .iload 4, 2), (364, .iconst 1, 1), (365, .iadd, 1), (366, .iaload, 1), (367, .aload_n 0, 1), (368, .iload 4, 2), (370, .iconst 2, 1), (371, .iadd, 1), (372, .iaload, 1), (373, .ifCond .eq 7, 3), (376, .iconst 1, 1), (377, .goto 4, 3), (380, .iconst 0, 1), (381, .aload_n 3, 1), (382, .invokestatic 155, 3), (385, .istore 5, 2), (387, .aload_n 2, 1), (388, .aload_n 0, 1), (389, .iload 4, 2), (391, .iconst 1, 1), (392, .iadd, 1), (393, .iaload, 1), (394, .aload_n 0, 1), (395, .iload 4, 2), (397, .iconst 2, 1), (398, .iadd, 1), (399, .iaload, 1), (400, .ifCond .eq 7, 3), (403, .iconst 1, 1), (404, .goto 4, 3), (407, .iconst 0, 1), (408, .invokevirtual 158, 3), (411, .istore 6, 2), (413, .goto 1282, 3), (416, .aload_n 1, 1), (417, .aload_n 0, 1), (418, .iload 4, 2), (420, .iconst 1, 1)]
theorem dd_L_law_2 : ∀ q ∈ dt_L_law_2, decode cL_law q.1 = .ok q.2 := by
  first
  | (refine dw_all ?_; decide +kernel)
  | decide +kernel
noncomputable def dt_L_law_3 : List (Nat × Instr × Nat) := [(421, .iadd, 1), (422, .iaload, 1), (423, .aload_n 3, 1), (424, .invokestatic 159, 3), (427, .istore 5, 2), (429, .aload_n 2, 1), (430, .aload_n 0, 1), (431, .iload 4, 2), (433, .iconst 1, 1), (434, .iadd, 1), (435, .iaload, 1), (436, .invokevirtual 162, 3), (439, .istore 6, 2), (441, .goto 1254, 3), (444, .aload_n 1, 1), (445, .aload_n 3, 1), (446, .invokestatic 163, 3), (449, .istore 5, 2), (451, .aload_n 2, 1), (452, .invokevirtual 166, 3), (455, .istore 6, 2), (457, .goto 1238, 3), (460, .aload_n 1, 1), (461, .aload_n 0, 1), (462, .iload 4, 2), (464, .iconst 1, 1), (465, .iadd, 1), (466, .iaload, 1), (467, .aload_n 0, 1), (468, .iload 4, 2), (470, .iconst 2, 1), (471, .iadd, 1), (472, .iaload, 1), (473, .aload_n 0, 1), (474, .iload 4, 2), (476, .iconst 3, 1), (477, .iadd, 1), (478, .iaload, 1), (479, .aload_n 3, 1), (480, .invokestatic 167, 3), (483, .istore 5, 2), (485, .aload_n 2, 1), (486, .aload_n 0, 1), (487, .iload 4, 2), (489, .iconst 1, 1), (490, .iadd, 1), (491, .iaload, 1), (492, .aload_n 0, 1), (493, .iload 4, 2), (495, .iconst 2, 1), (496, .iadd, 1), (497, .iaload, 1), (498, .aload_n 0, 1), (499, .iload 4, 2), (501, .iconst 3, 1), (502, .iadd, 1), (503, .iaload, 1), (504, .invokevirtual 169, 3), (507, .istore 6, 2), (509, .goto 1186, 3)]
theorem dd_L_law_3 : ∀ q ∈ dt_L_law_3, decode cL_law q.1 = .ok q.2 := by
  first
  | (refine dw_all ?_; decide +kernel)
  | decide +kernel
noncomputable def dt_L_law_4 : List (Nat × Instr × Nat) := [(512, .aload_n 1, 1), (513, .aload_n 0, 1), (514, .iload 4, 2), (516, .iconst 1, 1), (517, .iadd, 1), (518, .iaload, 1), (519, .aload_n 3, 1), (520, .invokestatic 170, 3), (523, .istore 5, 2), (525, .aload_n 2, 1), (526, .aload_n 0, 1), (527, .iload 4, 2), (529, .iconst 1, 1), (530, .iadd, 1), (531, .iaload, 1), (532, .invokevirtual 172, 3), (535, .istore 6, 2), (537, .goto 1158, 3), (540, .aload_n 1, 1), (541, .aload_n 0, 1), (542, .iload 4, 2), (544, .iconst 1, 1), (545, .iadd, 1), (546, .iaload, 1), (547, .aload_n 3, 1), (548, .invokestatic 173, 3), (551, .istore 5, 2), (553, .aload_n 2, 1), (554, .aload_n 0, 1), (555, .iload 4, 2), (557, .iconst 1, 1), (558, .iadd, 1), (559, .iaload, 1), (560, .invokevirtual 175, 3), (563, .istore 6, 2), (565, .goto 1130, 3), (568, .aload_n 1, 1), (569, .aload_n 0, 1), (570, .iload 4, 2), (572, .iconst 1, 1), (573, .iadd, 1), (574, .iaload, 1), (575, .aload_n 0, 1), (576, .iload 4, 2), (578, .iconst 2, 1), (579, .iadd, 1), (580, .iaload, 1), (581, .aload_n 0, 1), (582, .iload 4, 2), (584, .iconst 3, 1), (585, .iadd, 1), (586, .iaload, 1), (587, .aload_n 3, 1), (588, .invokestatic 176, 3), (591, .istore 5, 2), (593, .aload_n 2, 1), (594, .aload_n 0, 1), (595, .iload 4, 2), (597, .iconst 1, 1), (598, .iadd, 1)]
theorem dd_L_law_4 : ∀ q ∈ dt_L_law_4, decode cL_law q.1 = .ok q.2 := by
  first
  | (refine dw_all ?_; decide +kernel)
  | decide +kernel
noncomputable def dt_L_law_5 : List (Nat × Instr × Nat) := [(599, .iaload, 1), (600, .aload_n 0, 1), (601, .iload 4, 2), (603, .iconst 2, 1), (604, .iadd, 1), (605, .iaload, 1), (606, .aload_n 0, 1), (607, .iload 4, 2), (609, .iconst 3, 1), (610, .iadd, 1), (611, .iaload, 1), (612, .invokevirtual 178, 3), (615, .istore 6, 2), (617, .goto 1078, 3), (620, .aload_n 1, 1), (621, .aload_n 0, 1), (622, .iload 4, 2), (624, .iconst 1, 1), (625, .iadd, 1), (626, .iaload, 1), (627, .aload_n 3, 1), (628, .invokestatic 179, 3), (631, .istore 5, 2), (633, .aload_n 2, 1), (634, .aload_n 0, 1), (635, .iload 4, 2), (637, .iconst 1, 1), (638, .iadd, 1), (639, .iaload, 1), (640, .invokevirtual 181, 3), (643, .istore 6, 2), (645, .goto 1050, 3), (648, .aload_n 1, 1), (649, .aload_n 0, 1), (650, .iload 4, 2), (652, .iconst 1, 1), (653, .iadd, 1), (654, .iaload, 1), (655, .aload_n 3, 1), (656, .invokestatic 182, 3), (659, .istore 5, 2), (661, .aload_n 2, 1), (662, .aload_n 0, 1), (663, .iload 4, 2), (665, .iconst 1, 1), (666, .iadd, 1), (667, .iaload, 1), (668, .invokevirtual 184, 3), (671, .istore 6, 2), (673, .goto 1022, 3), (676, .aload_n 1, 1), (677, .aload_n 0, 1), (678, .iload 4, 2), (680, .iconst 1, 1), (681, .iadd, 1), (682, .iaload, 1), (683, .aload_n 0, 1), (684, .iload 4, 2), (686, .iconst 2, 1), (687, .iadd, 1)]
theorem dd_L_law_5 : ∀ q ∈ dt_L_law_5, decode cL_law q.1 = .ok q.2 := by
  first
  | (refine dw_all ?_; decide +kernel)
  | decide +kernel
noncomputable def dt_L_law_6 : List (Nat × Instr × Nat) := [(688, .iaload, 1), (689, .aload_n 3, 1), (690, .invokestatic 185, 3), (693, .istore 5, 2), (695, .aload_n 2, 1), (696, .aload_n 0, 1), (697, .iload 4, 2), (699, .iconst 1, 1), (700, .iadd, 1), (701, .iaload, 1), (702, .aload_n 0, 1), (703, .iload 4, 2), (705, .iconst 2, 1), (706, .iadd, 1), (707, .iaload, 1), (708, .invokevirtual 187, 3), (711, .istore 6, 2), (713, .goto 982, 3), (716, .aload_n 1, 1), (717, .aload_n 0, 1), (718, .iload 4, 2), (720, .iconst 1, 1), (721, .iadd, 1), (722, .iaload, 1), (723, .aload_n 0, 1), (724, .iload 4, 2), (726, .iconst 2, 1), (727, .iadd, 1), (728, .iaload, 1), (729, .aload_n 3, 1), (730, .invokestatic 188, 3), (733, .istore 5, 2), (735, .aload_n 2, 1), (736, .aload_n 0, 1), (737, .iload 4, 2), (739, .iconst 1, 1), (740, .iadd, 1), (741, .iaload, 1), (742, .aload_n 0, 1), (743, .iload 4, 2), (745, .iconst 2, 1), (746, .iadd, 1), (747, .iaload, 1), (748, .invokevirtual 190, 3), (751, .istore 6, 2), (753, .goto 942, 3), (756, .aload_n 1, 1), (757, .aload_n 0, 1), (758, .iload 4, 2), (760, .iconst 1, 1), (761, .iadd, 1), (762, .iaload, 1), (763, .aload_n 0, 1), (764, .iload 4, 2), (766, .iconst 2, 1), (767, .iadd, 1), (768, .iaload, 1), (769, .aload_n 3, 1), (770, .invokestatic 191, 3), (773, .istore 5, 2)]
theorem dd_L_law_6 : ∀ q ∈ dt_L_law_6, decode cL_law q.1 = .ok q.2 := by
  first
  | (refine dw_all ?_; decide +kernel)
  | decide +kernel
noncomputable def dt_L_law_7 : List (Nat × Instr × Nat) := [(775, .aload_n 2, 1), (776, .aload_n 0, 1), (777, .iload 4, 2), (779, .iconst 1, 1), (780, .iadd, 1), (781, .iaload, 1), (782, .aload_n 0, 1), (783, .iload 4, 2), (785, .iconst 2, 1), (786, .iadd, 1), (787, .iaload, 1), (788, .invokevirtual 193, 3), (791, .istore 6, 2), (793, .aload_n 2, 1), (794, .invokevirtual 194, 3), (797, .iload 5, 2), (799, .if_icmp .eq 5, 3), (802, .iconst 0, 1), (803, .ireturn, 1), (804, .iload 5, 2), (806, .ifCond .ne 23, 3), (809, .aload_n 3, 1), (810, .getfield 13, 3), (813, .iload 6, 2), (815, .ifCond .eq 7, 3), (818, .lconst 1, 1), (819, .goto 4, 3), (822, .lconst 0, 1), (823, .lcmp, 1), (824, .ifCond .eq 5, 3), (827, .iconst 0, 1), (828, .ireturn, 1), (829, .goto 866, 3), (832, .aload_n 1, 1), (833, .aload_n 0, 1), (834, .iload 4, 2), (836, .iconst 1, 1), (837, .iadd, 1), (838, .iaload, 1), (839, .aload_n 0, 1), (840, .iload 4, 2), (842, .iconst 2, 1), (843, .iadd, 1), (844, .iaload, 1), (845, .aload_n 0, 1), (846, .iload 4, 2), (848, .iconst 3, 1), (849, .iadd, 1), (850, .iaload, 1), (851, .aload_n 3, 1), (852, .invokestatic 197, 3), (855, .istore 5, 2), (857, .aload_n 2, 1), (858, .aload_n 0, 1), (859, .iload 4, 2), (861, .iconst 1, 1), (862, .iadd, 1), (863, .iaload, 1), (864, .aload_n 0, 1), (865, .iload 4, 2)]
theorem dd_L_law_7 : ∀ q ∈ dt_L_law_7, decode cL_law q.1 = .ok q.2 := by
  first
  | (refine dw_all ?_; decide +kernel)
  | decide +kernel
noncomputable def dt_L_law_8 : List (Nat × Instr × Nat) := [(867, .iconst 2, 1), (868, .iadd, 1), (869, .iaload, 1), (870, .aload_n 0, 1), (871, .iload 4, 2), (873, .iconst 3, 1), (874, .iadd, 1), (875, .iaload, 1), (876, .invokevirtual 199, 3), (879, .istore 6, 2), (881, .goto 814, 3), (884, .aload_n 1, 1), (885, .aload_n 0, 1), (886, .iload 4, 2), (888, .iconst 1, 1), (889, .iadd, 1), (890, .iaload, 1), (891, .aload_n 3, 1), (892, .invokestatic 200, 3), (895, .istore 5, 2), (897, .aload_n 2, 1), (898, .aload_n 0, 1), (899, .iload 4, 2), (901, .iconst 1, 1), (902, .iadd, 1), (903, .iaload, 1), (904, .invokevirtual 202, 3), (907, .istore 6, 2), (909, .goto 786, 3), (912, .aload_n 1, 1), (913, .aload_n 0, 1), (914, .iload 4, 2), (916, .iconst 1, 1), (917, .iadd, 1), (918, .iaload, 1), (919, .aload_n 0, 1), (920, .iload 4, 2), (922, .iconst 2, 1), (923, .iadd, 1), (924, .iaload, 1), (925, .aload_n 3, 1), (926, .invokestatic 203, 3), (929, .istore 5, 2), (931, .aload_n 2, 1), (932, .aload_n 0, 1), (933, .iload 4, 2), (935, .iconst 1, 1), (936, .iadd, 1), (937, .iaload, 1), (938, .aload_n 0, 1), (939, .iload 4, 2), (941, .iconst 2, 1), (942, .iadd, 1), (943, .iaload, 1), (944, .invokevirtual 205, 3), (947, .istore 6, 2), (949, .goto 746, 3), (952, .aload_n 1, 1), (953, .aload_n 0, 1), (954, .iload 4, 2)]
theorem dd_L_law_8 : ∀ q ∈ dt_L_law_8, decode cL_law q.1 = .ok q.2 := by
  first
  | (refine dw_all ?_; decide +kernel)
  | decide +kernel
noncomputable def dt_L_law_9 : List (Nat × Instr × Nat) := [(956, .iconst 1, 1), (957, .iadd, 1), (958, .iaload, 1), (959, .aload_n 0, 1), (960, .iload 4, 2), (962, .iconst 2, 1), (963, .iadd, 1), (964, .iaload, 1), (965, .aload_n 3, 1), (966, .invokestatic 206, 3), (969, .istore 5, 2), (971, .aload_n 2, 1), (972, .aload_n 0, 1), (973, .iload 4, 2), (975, .iconst 1, 1), (976, .iadd, 1), (977, .iaload, 1), (978, .aload_n 0, 1), (979, .iload 4, 2), (981, .iconst 2, 1), (982, .iadd, 1), (983, .iaload, 1), (984, .invokevirtual 208, 3), (987, .istore 6, 2), (989, .goto 706, 3), (992, .aload_n 1, 1), (993, .aload_n 0, 1), (994, .iload 4, 2), (996, .iconst 1, 1), (997, .iadd, 1), (998, .iaload, 1), (999, .aload_n 0, 1), (1000, .iload 4, 2), (1002, .iconst 2, 1), (1003, .iadd, 1), (1004, .iaload, 1), (1005, .aload_n 0, 1), (1006, .iload 4, 2), (1008, .iconst 3, 1), (1009, .iadd, 1), (1010, .iaload, 1), (1011, .ifCond .eq 7, 3), (1014, .iconst 1, 1), (1015, .goto 4, 3), (1018, .iconst 0, 1), (1019, .aload_n 3, 1), (1020, .invokestatic 209, 3), (1023, .istore 5, 2), (1025, .aload_n 2, 1), (1026, .aload_n 0, 1), (1027, .iload 4, 2), (1029, .iconst 1, 1), (1030, .iadd, 1), (1031, .iaload, 1), (1032, .aload_n 0, 1), (1033, .iload 4, 2), (1035, .iconst 2, 1), (1036, .iadd, 1), (1037, .iaload, 1), (1038, .aload_n 0, 1)]
theorem dd_L_law_9 : ∀ q ∈ dt_L_law_9, decode cL_law q.1 = .ok q.2 := by
  first
  | (refine dw_all ?_; decide +kernel)
  | decide +kernel
noncomputable def dt_L_law_10 : List (Nat × Instr × Nat) := [(1039, .iload 4, 2), (1041, .iconst 3, 1), (1042, .iadd, 1), (1043, .iaload, 1), (1044, .ifCond .eq 7, 3), (1047, .iconst 1, 1), (1048, .goto 4, 3), (1051, .iconst 0, 1), (1052, .invokevirtual 212, 3), (1055, .istore 6, 2), (1057, .goto 638, 3), (1060, .aload_n 1, 1), (1061, .aload_n 0, 1), (1062, .iload 4, 2), (1064, .iconst 1, 1), (1065, .iadd, 1), (1066, .iaload, 1), (1067, .aload_n 0, 1), (1068, .iload 4, 2), (1070, .iconst 2, 1), (1071, .iadd, 1), (1072, .iaload, 1), (1073, .aload_n 3, 1), (1074, .invokestatic 213, 3), (1077, .istore 5, 2), (1079, .aload_n 2, 1), (1080, .aload_n 0, 1), (1081, .iload 4, 2), (1083, .iconst 1, 1), (1084, .iadd, 1), (1085, .iaload, 1), (1086, .aload_n 0, 1), (1087, .iload 4, 2), (1089, .iconst 2, 1), (1090, .iadd, 1), (1091, .iaload, 1), (1092, .invokevirtual 215, 3), (1095, .istore 6, 2), (1097, .goto 598, 3), (1100, .aload_n 1, 1), (1101, .aload_n 0, 1), (1102, .iload 4, 2), (1104, .iconst 1, 1), (1105, .iadd, 1), (1106, .iaload, 1), (1107, .aload_n 0, 1), (1108, .iload 4, 2), (1110, .iconst 2, 1), (1111, .iadd, 1), (1112, .iaload, 1), (1113, .aload_n 0, 1), (1114, .iload 4, 2), (1116, .iconst 3, 1), (1117, .iadd, 1), (1118, .iaload, 1), (1119, .ifCond .eq 7, 3), (1122, .iconst 1, 1), (1123, .goto 4, 3), (1126, .iconst 0, 1), (1127, .aload_n 3, 1)]
theorem dd_L_law_10 : ∀ q ∈ dt_L_law_10, decode cL_law q.1 = .ok q.2 := by
  first
  | (refine dw_all ?_; decide +kernel)
  | decide +kernel
noncomputable def dt_L_law_11 : List (Nat × Instr × Nat) := [(1128, .invokestatic 216, 3), (1131, .istore 5, 2), (1133, .aload_n 2, 1), (1134, .aload_n 0, 1), (1135, .iload 4, 2), (1137, .iconst 1, 1), (1138, .iadd, 1), (1139, .iaload, 1), (1140, .aload_n 0, 1), (1141, .iload 4, 2), (1143, .iconst 2, 1), (1144, .iadd, 1), (1145, .iaload, 1), (1146, .aload_n 0, 1), (1147, .iload 4, 2), (1149, .iconst 3, 1), (1150, .iadd, 1), (1151, .iaload, 1), (1152, .ifCond .eq 7, 3), (1155, .iconst 1, 1), (1156, .goto 4, 3), (1159, .iconst 0, 1), (1160, .invokevirtual 218, 3), (1163, .istore 6, 2), (1165, .goto 530, 3), (1168, .aload_n 1, 1), (1169, .aload_n 0, 1), (1170, .iload 4, 2), (1172, .iconst 1, 1), (1173, .iadd, 1), (1174, .iaload, 1), (1175, .aload_n 0, 1), (1176, .iload 4, 2), (1178, .iconst 2, 1), (1179, .iadd, 1), (1180, .iaload, 1), (1181, .aload_n 0, 1), (1182, .iload 4, 2), (1184, .iconst 3, 1), (1185, .iadd, 1), (1186, .iaload, 1), (1187, .ifCond .eq 7, 3), (1190, .iconst 1, 1), (1191, .goto 4, 3), (1194, .iconst 0, 1), (1195, .aload_n 3, 1), (1196, .invokestatic 219, 3), (1199, .istore 5, 2), (1201, .aload_n 2, 1), (1202, .aload_n 0, 1), (1203, .iload 4, 2), (1205, .iconst 1, 1), (1206, .iadd, 1), (1207, .iaload, 1), (1208, .aload_n 0, 1), (1209, .iload 4, 2), (1211, .iconst 2, 1), (1212, .iadd, 1), (1213, .iaload, 1), (1214, .aload_n 0, 1)]
theorem dd_L_law_11 : ∀ q ∈ dt_L_law_11, decode cL_law q.1 = .ok q.2 := by
  first
  | (refine dw_all ?_; decide +kernel)
  | decide +kernel
noncomputable def dt_L_law_12 : List (Nat × Instr × Nat) := [(1215, .iload 4, 2), (1217, .iconst 3, 1), (1218, .iadd, 1), (1219, .iaload, 1), (1220, .ifCond .eq 7, 3), (1223, .iconst 1, 1), (1224, .goto 4, 3), (1227, .iconst 0, 1), (1228, .invokevirtual 221, 3), (1231, .istore 6, 2), (1233, .goto 462, 3), (1236, .aload_n 1, 1), (1237, .aload_n 0, 1), (1238, .iload 4, 2), (1240, .iconst 1, 1), (1241, .iadd, 1), (1242, .iaload, 1), (1243, .aload_n 3, 1), (1244, .invokestatic 222, 3), (1247, .istore 5, 2), (1249, .aload_n 2, 1), (1250, .aload_n 0, 1), (1251, .iload 4, 2), (1253, .iconst 1, 1), (1254, .iadd, 1), (1255, .iaload, 1), (1256, .invokevirtual 224, 3), (1259, .istore 6, 2), (1261, .goto 434, 3), (1264, .aload_n 1, 1), (1265, .aload_n 0, 1), (1266, .iload 4, 2), (1268, .iconst 1, 1), (1269, .iadd, 1), (1270, .iaload, 1), (1271, .aload_n 0, 1), (1272, .iload 4, 2), (1274, .iconst 2, 1), (1275, .iadd, 1), (1276, .iaload, 1), (1277, .ifCond .eq 7, 3), (1280, .iconst 1, 1), (1281, .goto 4, 3), (1284, .iconst 0, 1), (1285, .aload_n 3, 1), (1286, .invokestatic 225, 3), (1289, .istore 5, 2), (1291, .aload_n 2, 1), (1292, .aload_n 0, 1), (1293, .iload 4, 2), (1295, .iconst 1, 1), (1296, .iadd, 1), (1297, .iaload, 1), (1298, .aload_n 0, 1), (1299, .iload 4, 2), (1301, .iconst 2, 1), (1302, .iadd, 1), (1303, .iaload, 1), (1304, .ifCond .eq 7, 3), (1307, .iconst 1, 1)]
theorem dd_L_law_12 : ∀ q ∈ dt_L_law_12, decode cL_law q.1 = .ok q.2 := by
  first
  | (refine dw_all ?_; decide +kernel)
  | decide +kernel
noncomputable def dt_L_law_13 : List (Nat × Instr × Nat) := [(1308, .goto 4, 3), (1311, .iconst 0, 1), (1312, .invokevirtual 227, 3), (1315, .istore 6, 2), (1317, .goto 378, 3), (1320, .aload_n 1, 1), (1321, .aload_n 0, 1), (1322, .iload 4, 2), (1324, .iconst 1, 1), (1325, .iadd, 1), (1326, .iaload, 1), (1327, .aload_n 0, 1), (1328, .iload 4, 2), (1330, .iconst 2, 1), (1331, .iadd, 1), (1332, .iaload, 1), (1333, .aload_n 3, 1), (1334, .invokestatic 228, 3), (1337, .istore 5, 2), (1339, .aload_n 2, 1), (1340, .aload_n 0, 1), (1341, .iload 4, 2), (1343, .iconst 1, 1), (1344, .iadd, 1), (1345, .iaload, 1), (1346, .aload_n 0, 1), (1347, .iload 4, 2), (1349, .iconst 2, 1), (1350, .iadd, 1), (1351, .iaload, 1), (1352, .invokevirtual 230, 3), (1355, .istore 6, 2), (1357, .goto 338, 3), (1360, .aload_n 1, 1), (1361, .aload_n 0, 1), (1362, .iload 4, 2), (1364, .iconst 1, 1), (1365, .iadd, 1), (1366, .iaload, 1), (1367, .aload_n 3, 1), (1368, .invokestatic 231, 3), (1371, .istore 5, 2), (1373, .aload_n 2, 1), (1374, .aload_n 0, 1), (1375, .iload 4, 2), (1377, .iconst 1, 1), (1378, .iadd, 1), (1379, .iaload, 1), (1380, .invokevirtual 233, 3), (1383, .astore 6, 2), (1385, .goto 310, 3), (1388, .aload_n 1, 1), (1389, .aload_n 0, 1), (1390, .iload 4, 2), (1392, .iconst 1, 1), (1393, .iadd, 1), (1394, .iaload, 1), (1395, .aload_n 3, 1), (1396, .invokestatic 234, 3), (1399, .istore 5, 2)]
theorem dd_L_law_13 : ∀ q ∈ dt_L_law_13, decode cL_law q.1 = .ok q.2 := by
  first
  | (refine dw_all ?_; decide +kernel)
  | decide +kernel
noncomputable def dt_L_law_14 : List (Nat × Instr × Nat) := [(1401, .aload_n 2, 1), (1402, .aload_n 0, 1), (1403, .iload 4, 2), (1405, .iconst 1, 1), (1406, .iadd, 1), (1407, .iaload, 1), (1408, .invokevirtual 236, 3), (1411, .istore 6, 2), (1413, .goto 282, 3), (1416, .aload_n 1, 1), (1417, .aload_n 0, 1), (1418, .iload 4, 2), (1420, .iconst 1, 1), (1421, .iadd, 1), (1422, .iaload, 1), (1423, .aload_n 3, 1), (1424, .invokestatic 237, 3), (1427, .istore 5, 2), (1429, .aload_n 2, 1), (1430, .aload_n 0, 1), (1431, .iload 4, 2), (1433, .iconst 1, 1), (1434, .iadd, 1), (1435, .iaload, 1), (1436, .invokevirtual 239, 3), (1439, .istore 6, 2), (1441, .goto 254, 3), (1444, .aload_n 1, 1), (1445, .aload_n 0, 1), (1446, .iload 4, 2), (1448, .iconst 1, 1), (1449, .iadd, 1), (1450, .iaload, 1), (1451, .aload_n 0, 1), (1452, .iload 4, 2), (1454, .iconst 2, 1), (1455, .iadd, 1), (1456, .iaload, 1), (1457, .aload_n 3, 1), (1458, .invokestatic 240, 3), (1461, .istore 5, 2), (1463, .aload_n 2, 1), (1464, .aload_n 0, 1), (1465, .iload 4, 2), (1467, .iconst 1, 1), (1468, .iadd, 1), (1469, .iaload, 1), (1470, .aload_n 0, 1), (1471, .iload 4, 2), (1473, .iconst 2, 1), (1474, .iadd, 1), (1475, .iaload, 1), (1476, .invokevirtual 242, 3), (1479, .istore 6, 2), (1481, .goto 214, 3), (1484, .aload_n 1, 1), (1485, .aload_n 0, 1), (1486, .iload 4, 2), (1488, .iconst 1, 1), (1489, .iadd, 1)]
theorem dd_L_law_14 : ∀ q ∈ dt_L_law_14, decode cL_law q.1 = .ok q.2 := by
  first
  | (refine dw_all ?_; decide +kernel)
  | decide +kernel
noncomputable def dt_L_law_15 : List (Nat × Instr × Nat) := [(1490, .iaload, 1), (1491, .aload_n 0, 1), (1492, .iload 4, 2), (1494, .iconst 2, 1), (1495, .iadd, 1), (1496, .iaload, 1), (1497, .aload_n 3, 1), (1498, .invokestatic 243, 3), (1501, .istore 5, 2), (1503, .aload_n 2, 1), (1504, .aload_n 0, 1), (1505, .iload 4, 2), (1507, .iconst 1, 1), (1508, .iadd, 1), (1509, .iaload, 1), (1510, .aload_n 0, 1), (1511, .iload 4, 2), (1513, .iconst 2, 1), (1514, .iadd, 1), (1515, .iaload, 1), (1516, .invokevirtual 245, 3), (1519, .istore 6, 2), (1521, .goto 174, 3), (1524, .aload_n 1, 1), (1525, .aload_n 0, 1), (1526, .iload 4, 2), (1528, .iconst 1, 1), (1529, .iadd, 1), (1530, .iaload, 1), (1531, .aload_n 0, 1), (1532, .iload 4, 2), (1534, .iconst 2, 1), (1535, .iadd, 1), (1536, .iaload, 1), (1537, .aload_n 3, 1), (1538, .invokestatic 246, 3), (1541, .istore 5, 2), (1543, .aload_n 2, 1), (1544, .aload_n 0, 1), (1545, .iload 4, 2), (1547, .iconst 1, 1), (1548, .iadd, 1), (1549, .iaload, 1), (1550, .aload_n 0, 1), (1551, .iload 4, 2), (1553, .iconst 2, 1), (1554, .iadd, 1), (1555, .iaload, 1), (1556, .invokevirtual 248, 3), (1559, .istore 6, 2), (1561, .goto 134, 3), (1564, .aload_n 1, 1), (1565, .aload_n 0, 1), (1566, .iload 4, 2), (1568, .iconst 1, 1), (1569, .iadd, 1), (1570, .iaload, 1), (1571, .aload_n 3, 1), (1572, .invokestatic 249, 3), (1575, .istore 5, 2)]
theorem dd_L_law_15 : ∀ q ∈ dt_L_law_15, decode cL_law q.1 = .ok q.2 := by
  first
  | (refine dw_all ?_; decide +kernel)
  | decide +kernel
noncomputable def dt_L_law_16 : List (Nat × Instr × Nat) := [(1577, .aload_n 2, 1), (1578, .aload_n 0, 1), (1579, .iload 4, 2), (1581, .iconst 1, 1), (1582, .iadd, 1), (1583, .iaload, 1), (1584, .invokevirtual 251, 3), (1587, .istore 6, 2), (1589, .goto 106, 3), (1592, .aload_n 1, 1), (1593, .aload_n 0, 1), (1594, .iload 4, 2), (1596, .iconst 1, 1), (1597, .iadd, 1), (1598, .iaload, 1), (1599, .aload_n 0, 1), (1600, .iload 4, 2), (1602, .iconst 2, 1), (1603, .iadd, 1), (1604, .iaload, 1), (1605, .aload_n 0, 1), (1606, .iload 4, 2), (1608, .iconst 3, 1), (1609, .iadd, 1), (1610, .iaload, 1), (1611, .aload_n 0, 1), (1612, .iload 4, 2), (1614, .iconst 4, 1), (1615, .iadd, 1), (1616, .iaload, 1), (1617, .aload_n 3, 1), (1618, .invokestatic 252, 3), (1621, .istore 5, 2), (1623, .aload_n 2, 1), (1624, .aload_n 0, 1), (1625, .iload 4, 2), (1627, .iconst 1, 1), (1628, .iadd, 1), (1629, .iaload, 1), (1630, .aload_n 0, 1), (1631, .iload 4, 2), (1633, .iconst 2, 1), (1634, .iadd, 1), (1635, .iaload, 1), (1636, .aload_n 0, 1), (1637, .iload 4, 2), (1639, .iconst 3, 1), (1640, .iadd, 1), (1641, .iaload, 1), (1642, .aload_n 0, 1), (1643, .iload 4, 2), (1645, .iconst 4, 1), (1646, .iadd, 1), (1647, .iaload, 1), (1648, .invokevirtual 254, 3), (1651, .istore 6, 2), (1653, .goto 42, 3), (1656, .aload_n 1, 1), (1657, .invokevirtual 255, 3), (1660, .pop, 1)]
theorem dd_L_law_16 : ∀ q ∈ dt_L_law_16, decode cL_law q.1 = .ok q.2 := by
  first
  | (refine dw_all ?_; decide +kernel)
  | decide +kernel
noncomputable def dt_L_law_17 : List (Nat × Instr × Nat) := [(1661, .aload_n 2, 1), (1662, .invokevirtual 258, 3), (1665, .pop, 1), (1666, .goto 29, 3), (1669, .aload_n 1, 1), (1670, .invokevirtual 259, 3), (1673, .pop, 1), (1674, .aload_n 2, 1), (1675, .invokevirtual 263, 3), (1678, .pop, 1), (1679, .goto 16, 3), (1682, .aload_n 1, 1), (1683, .invokevirtual 264, 3), (1686, .pop2, 1), (1687, .aload_n 2, 1), (1688, .invokevirtual 268, 3), (1691, .pop2, 1), (1692, .goto 3, 3), (1695, .iinc 4 5, 3), (1698, .goto (-1671), 3), (1701, .iconst 1, 1), (1702, .ireturn, 1)]
theorem dd_L_law_17 : ∀ q ∈ dt_L_law_17, decode cL_law q.1 = .ok q.2 := by
  first
  | (refine dw_all ?_; decide +kernel)
  | decide +kernel
