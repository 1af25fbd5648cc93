/-! ===== words of the law's own methods ===== -/
def gwl_L2 : List Cond := [(Jvm.Cond.initialized "WavesaleLaw"), (Jvm.Cond.methodLink "WavesaleLaw" (141 : Nat) ({ cls := "WavesaleLaw", name := "region", desc := "(LWavesale;IIILWavesaleLaw$Out;)I" } : Jvm.MethodName)), (Jvm.Cond.static ({ cls := "WavesaleLaw", name := "region", desc := "(LWavesale;IIILWavesaleLaw$Out;)I" } : Jvm.MethodName)), (Jvm.Cond.codeWith ({ cls := "WavesaleLaw", name := "region", desc := "(LWavesale;IIILWavesaleLaw$Out;)I" } : Jvm.MethodName) method_2_code (6 : Nat) (Option.some Jvm.ClassFile.FieldType.int) [((0 : Nat), (13 : Nat), (16 : Nat), (19 : Nat)), ((0 : Nat), (13 : Nat), (20 : Nat), (21 : Nat))]), (Jvm.Cond.classLink "WavesaleLaw" (19 : Nat) "java/lang/IllegalArgumentException"), (Jvm.Cond.classLink "WavesaleLaw" (21 : Nat) "java/lang/IllegalStateException"), (Jvm.Cond.methodLink "WavesaleLaw" (147 : Nat) ({ cls := "WavesaleLaw", name := "border", desc := "(LWavesale;IILWavesaleLaw$Out;)I" } : Jvm.MethodName)), (Jvm.Cond.static ({ cls := "WavesaleLaw", name := "border", desc := "(LWavesale;IILWavesaleLaw$Out;)I" } : Jvm.MethodName)), (Jvm.Cond.codeWith ({ cls := "WavesaleLaw", name := "border", desc := "(LWavesale;IILWavesaleLaw$Out;)I" } : Jvm.MethodName) method_3_code (5 : Nat) (Option.some Jvm.ClassFile.FieldType.int) [((0 : Nat), (11 : Nat), (14 : Nat), (27 : Nat)), ((0 : Nat), (11 : Nat), (18 : Nat), (19 : Nat)), ((0 : Nat), (11 : Nat), (22 : Nat), (21 : Nat))]), (Jvm.Cond.classLink "WavesaleLaw" (27 : Nat) "java/lang/IndexOutOfBoundsException"), (Jvm.Cond.methodLink "WavesaleLaw" (151 : Nat) ({ cls := "WavesaleLaw", name := "bidder", desc := "(LWavesale;IIIILWavesaleLaw$Out;)I" } : Jvm.MethodName)), (Jvm.Cond.static ({ cls := "WavesaleLaw", name := "bidder", desc := "(LWavesale;IIIILWavesaleLaw$Out;)I" } : Jvm.MethodName)), (Jvm.Cond.codeWith ({ cls := "WavesaleLaw", name := "bidder", desc := "(LWavesale;IIIILWavesaleLaw$Out;)I" } : Jvm.MethodName) method_4_code (7 : Nat) (Option.some Jvm.ClassFile.FieldType.int) [((0 : Nat), (15 : Nat), (18 : Nat), (19 : Nat)), ((0 : Nat), (15 : Nat), (22 : Nat), (21 : Nat))]), (Jvm.Cond.methodLink "WavesaleLaw" (155 : Nat) ({ cls := "WavesaleLaw", name := "rules", desc := "(LWavesale;IZLWavesaleLaw$Out;)I" } : Jvm.MethodName)), (Jvm.Cond.static ({ cls := "WavesaleLaw", name := "rules", desc := "(LWavesale;IZLWavesaleLaw$Out;)I" } : Jvm.MethodName)), (Jvm.Cond.codeWith ({ cls := "WavesaleLaw", name := "rules", desc := "(LWavesale;IZLWavesaleLaw$Out;)I" } : Jvm.MethodName) method_5_code (5 : Nat) (Option.some Jvm.ClassFile.FieldType.int) [((0 : Nat), (11 : Nat), (14 : Nat), (19 : Nat)), ((0 : Nat), (11 : Nat), (18 : Nat), (21 : Nat))]), (Jvm.Cond.methodLink "WavesaleLaw" (159 : Nat) ({ cls := "WavesaleLaw", name := "step", desc := "(LWavesale;ILWavesaleLaw$Out;)I" } : Jvm.MethodName)), (Jvm.Cond.static ({ cls := "WavesaleLaw", name := "step", desc := "(LWavesale;ILWavesaleLaw$Out;)I" } : Jvm.MethodName)), (Jvm.Cond.codeWith ({ cls := "WavesaleLaw", name := "step", desc := "(LWavesale;ILWavesaleLaw$Out;)I" } : Jvm.MethodName) method_6_code (4 : Nat) (Option.some Jvm.ClassFile.FieldType.int) [((0 : Nat), (10 : Nat), (13 : Nat), (19 : Nat)), ((0 : Nat), (10 : Nat), (16 : Nat), (21 : Nat))]), (Jvm.Cond.methodLink "WavesaleLaw" (163 : Nat) ({ cls := "WavesaleLaw", name := "open", desc := "(LWavesale;LWavesaleLaw$Out;)I" } : Jvm.MethodName)), (Jvm.Cond.static ({ cls := "WavesaleLaw", name := "open", desc := "(LWavesale;LWavesaleLaw$Out;)I" } : Jvm.MethodName)), (Jvm.Cond.codeWith ({ cls := "WavesaleLaw", name := "open", desc := "(LWavesale;LWavesaleLaw$Out;)I" } : Jvm.MethodName) method_7_code (3 : Nat) (Option.some Jvm.ClassFile.FieldType.int) [((0 : Nat), (9 : Nat), (12 : Nat), (21 : Nat))]), (Jvm.Cond.methodLink "WavesaleLaw" (167 : Nat) ({ cls := "WavesaleLaw", name := "wish", desc := "(LWavesale;IIILWavesaleLaw$Out;)I" } : Jvm.MethodName)), (Jvm.Cond.static ({ cls := "WavesaleLaw", name := "wish", desc := "(LWavesale;IIILWavesaleLaw$Out;)I" } : Jvm.MethodName)), (Jvm.Cond.codeWith ({ cls := "WavesaleLaw", name := "wish", desc := "(LWavesale;IIILWavesaleLaw$Out;)I" } : Jvm.MethodName) method_8_code (6 : Nat) (Option.some Jvm.ClassFile.FieldType.int) [((0 : Nat), (13 : Nat), (16 : Nat), (27 : Nat)), ((0 : Nat), (13 : Nat), (20 : Nat), (19 : Nat)), ((0 : Nat), (13 : Nat), (24 : Nat), (21 : Nat))]), (Jvm.Cond.methodLink "WavesaleLaw" (170 : Nat) ({ cls := "WavesaleLaw", name := "waive", desc := "(LWavesale;ILWavesaleLaw$Out;)I" } : Jvm.MethodName)), (Jvm.Cond.static ({ cls := "WavesaleLaw", name := "waive", desc := "(LWavesale;ILWavesaleLaw$Out;)I" } : Jvm.MethodName)), (Jvm.Cond.codeWith ({ cls := "WavesaleLaw", name := "waive", desc := "(LWavesale;ILWavesaleLaw$Out;)I" } : Jvm.MethodName) method_9_code (4 : Nat) (Option.some Jvm.ClassFile.FieldType.int) [((0 : Nat), (10 : Nat), (13 : Nat), (27 : Nat)), ((0 : Nat), (10 : Nat), (16 : Nat), (21 : Nat))]), (Jvm.Cond.methodLink "WavesaleLaw" (173 : Nat) ({ cls := "WavesaleLaw", name := "close", desc := "(LWavesale;ILWavesaleLaw$Out;)I" } : Jvm.MethodName)), (Jvm.Cond.static ({ cls := "WavesaleLaw", name := "close", desc := "(LWavesale;ILWavesaleLaw$Out;)I" } : Jvm.MethodName)), (Jvm.Cond.codeWith ({ cls := "WavesaleLaw", name := "close", desc := "(LWavesale;ILWavesaleLaw$Out;)I" } : Jvm.MethodName) method_10_code (4 : Nat) (Option.some Jvm.ClassFile.FieldType.int) [((0 : Nat), (10 : Nat), (13 : Nat), (19 : Nat)), ((0 : Nat), (10 : Nat), (16 : Nat), (21 : Nat))]), (Jvm.Cond.methodLink "WavesaleLaw" (176 : Nat) ({ cls := "WavesaleLaw", name := "offer", desc := "(LWavesale;IIILWavesaleLaw$Out;)I" } : Jvm.MethodName)), (Jvm.Cond.static ({ cls := "WavesaleLaw", name := "offer", desc := "(LWavesale;IIILWavesaleLaw$Out;)I" } : Jvm.MethodName)), (Jvm.Cond.codeWith ({ cls := "WavesaleLaw", name := "offer", desc := "(LWavesale;IIILWavesaleLaw$Out;)I" } : Jvm.MethodName) method_11_code (6 : Nat) (Option.some Jvm.ClassFile.FieldType.int) [((0 : Nat), (13 : Nat), (16 : Nat), (27 : Nat)), ((0 : Nat), (13 : Nat), (20 : Nat), (19 : Nat)), ((0 : Nat), (13 : Nat), (24 : Nat), (21 : Nat))]), (Jvm.Cond.methodLink "WavesaleLaw" (179 : Nat) ({ cls := "WavesaleLaw", name := "settle", desc := "(LWavesale;ILWavesaleLaw$Out;)I" } : Jvm.MethodName)), (Jvm.Cond.static ({ cls := "WavesaleLaw", name := "settle", desc := "(LWavesale;ILWavesaleLaw$Out;)I" } : Jvm.MethodName)), (Jvm.Cond.codeWith ({ cls := "WavesaleLaw", name := "settle", desc := "(LWavesale;ILWavesaleLaw$Out;)I" } : Jvm.MethodName) method_12_code (4 : Nat) (Option.some Jvm.ClassFile.FieldType.int) [((0 : Nat), (10 : Nat), (13 : Nat), (19 : Nat)), ((0 : Nat), (10 : Nat), (16 : Nat), (21 : Nat))]), (Jvm.Cond.methodLink "WavesaleLaw" (182 : Nat) ({ cls := "WavesaleLaw", name := "fail", desc := "(LWavesale;ILWavesaleLaw$Out;)I" } : Jvm.MethodName)), (Jvm.Cond.static ({ cls := "WavesaleLaw", name := "fail", desc := "(LWavesale;ILWavesaleLaw$Out;)I" } : Jvm.MethodName)), (Jvm.Cond.codeWith ({ cls := "WavesaleLaw", name := "fail", desc := "(LWavesale;ILWavesaleLaw$Out;)I" } : Jvm.MethodName) method_13_code (4 : Nat) (Option.some Jvm.ClassFile.FieldType.int) [((0 : Nat), (10 : Nat), (13 : Nat), (27 : Nat)), ((0 : Nat), (10 : Nat), (16 : Nat), (21 : Nat))]), (Jvm.Cond.methodLink "WavesaleLaw" (185 : Nat) ({ cls := "WavesaleLaw", name := "station", desc := "(LWavesale;IILWavesaleLaw$Out;)I" } : Jvm.MethodName)), (Jvm.Cond.static ({ cls := "WavesaleLaw", name := "station", desc := "(LWavesale;IILWavesaleLaw$Out;)I" } : Jvm.MethodName)), (Jvm.Cond.codeWith ({ cls := "WavesaleLaw", name := "station", desc := "(LWavesale;IILWavesaleLaw$Out;)I" } : Jvm.MethodName) method_14_code (5 : Nat) (Option.some Jvm.ClassFile.FieldType.int) [((0 : Nat), (11 : Nat), (14 : Nat), (27 : Nat)), ((0 : Nat), (11 : Nat), (18 : Nat), (19 : Nat)), ((0 : Nat), (11 : Nat), (22 : Nat), (21 : Nat))]), (Jvm.Cond.methodLink "WavesaleLaw" (188 : Nat) ({ cls := "WavesaleLaw", name := "ask", desc := "(LWavesale;IILWavesaleLaw$Out;)I" } : Jvm.MethodName)), (Jvm.Cond.static ({ cls := "WavesaleLaw", name := "ask", desc := "(LWavesale;IILWavesaleLaw$Out;)I" } : Jvm.MethodName)), (Jvm.Cond.codeWith ({ cls := "WavesaleLaw", name := "ask", desc := "(LWavesale;IILWavesaleLaw$Out;)I" } : Jvm.MethodName) method_15_code (5 : Nat) (Option.some Jvm.ClassFile.FieldType.int) [((0 : Nat), (11 : Nat), (14 : Nat), (27 : Nat)), ((0 : Nat), (11 : Nat), (18 : Nat), (19 : Nat))]), (Jvm.Cond.methodLink "WavesaleLaw" (191 : Nat) ({ cls := "WavesaleLaw", name := "packs", desc := "(LWavesale;IILWavesaleLaw$Out;)I" } : Jvm.MethodName)), (Jvm.Cond.static ({ cls := "WavesaleLaw", name := "packs", desc := "(LWavesale;IILWavesaleLaw$Out;)I" } : Jvm.MethodName)), (Jvm.Cond.codeWith ({ cls := "WavesaleLaw", name := "packs", desc := "(LWavesale;IILWavesaleLaw$Out;)I" } : Jvm.MethodName) method_16_code (5 : Nat) (Option.some Jvm.ClassFile.FieldType.int) [((0 : Nat), (18 : Nat), (21 : Nat), (19 : Nat))]), (Jvm.Cond.methodLink "WavesaleLaw" (194 : Nat) ({ cls := "WavesaleLaw", name := "channel", desc := "(LWavesale;IIILWavesaleLaw$Out;)I" } : Jvm.MethodName)), (Jvm.Cond.static ({ cls := "WavesaleLaw", name := "channel", desc := "(LWavesale;IIILWavesaleLaw$Out;)I" } : Jvm.MethodName)), (Jvm.Cond.codeWith ({ cls := "WavesaleLaw", name := "channel", desc := "(LWavesale;IIILWavesaleLaw$Out;)I" } : Jvm.MethodName) method_17_code (6 : Nat) (Option.some Jvm.ClassFile.FieldType.int) [((0 : Nat), (13 : Nat), (16 : Nat), (27 : Nat)), ((0 : Nat), (13 : Nat), (20 : Nat), (19 : Nat))]), (Jvm.Cond.methodLink "WavesaleLaw" (197 : Nat) ({ cls := "WavesaleLaw", name := "clear", desc := "(LWavesale;ILWavesaleLaw$Out;)I" } : Jvm.MethodName)), (Jvm.Cond.static ({ cls := "WavesaleLaw", name := "clear", desc := "(LWavesale;ILWavesaleLaw$Out;)I" } : Jvm.MethodName)), (Jvm.Cond.codeWith ({ cls := "WavesaleLaw", name := "clear", desc := "(LWavesale;ILWavesaleLaw$Out;)I" } : Jvm.MethodName) method_18_code (4 : Nat) (Option.some Jvm.ClassFile.FieldType.int) [((0 : Nat), (10 : Nat), (13 : Nat), (19 : Nat))]), (Jvm.Cond.methodLink "WavesaleLaw" (200 : Nat) ({ cls := "WavesaleLaw", name := "ofRegion", desc := "(LWavesale;IILWavesaleLaw$Out;)I" } : Jvm.MethodName)), (Jvm.Cond.static ({ cls := "WavesaleLaw", name := "ofRegion", desc := "(LWavesale;IILWavesaleLaw$Out;)I" } : Jvm.MethodName)), (Jvm.Cond.codeWith ({ cls := "WavesaleLaw", name := "ofRegion", desc := "(LWavesale;IILWavesaleLaw$Out;)I" } : Jvm.MethodName) method_19_code (5 : Nat) (Option.some Jvm.ClassFile.FieldType.int) [((0 : Nat), (11 : Nat), (14 : Nat), (27 : Nat)), ((0 : Nat), (11 : Nat), (18 : Nat), (19 : Nat))]), (Jvm.Cond.methodLink "WavesaleLaw" (203 : Nat) ({ cls := "WavesaleLaw", name := "ofBidder", desc := "(LWavesale;IILWavesaleLaw$Out;)I" } : Jvm.MethodName)), (Jvm.Cond.static ({ cls := "WavesaleLaw", name := "ofBidder", desc := "(LWavesale;IILWavesaleLaw$Out;)I" } : Jvm.MethodName)), (Jvm.Cond.codeWith ({ cls := "WavesaleLaw", name := "ofBidder", desc := "(LWavesale;IILWavesaleLaw$Out;)I" } : Jvm.MethodName) method_20_code (5 : Nat) (Option.some Jvm.ClassFile.FieldType.int) [((0 : Nat), (11 : Nat), (14 : Nat), (27 : Nat)), ((0 : Nat), (11 : Nat), (18 : Nat), (19 : Nat))]), (Jvm.Cond.methodLink "WavesaleLaw" (206 : Nat) ({ cls := "WavesaleLaw", name := "wants", desc := "(LWavesale;IIZLWavesaleLaw$Out;)I" } : Jvm.MethodName)), (Jvm.Cond.static ({ cls := "WavesaleLaw", name := "wants", desc := "(LWavesale;IIZLWavesaleLaw$Out;)I" } : Jvm.MethodName)), (Jvm.Cond.codeWith ({ cls := "WavesaleLaw", name := "wants", desc := "(LWavesale;IIZLWavesaleLaw$Out;)I" } : Jvm.MethodName) method_21_code (6 : Nat) (Option.some Jvm.ClassFile.FieldType.int) [((0 : Nat), (13 : Nat), (16 : Nat), (27 : Nat))]), (Jvm.Cond.methodLink "WavesaleLaw" (210 : Nat) ({ cls := "WavesaleLaw", name := "priceIn", desc := "(LWavesale;IILWavesaleLaw$Out;)I" } : Jvm.MethodName)), (Jvm.Cond.static ({ cls := "WavesaleLaw", name := "priceIn", desc := "(LWavesale;IILWavesaleLaw$Out;)I" } : Jvm.MethodName)), (Jvm.Cond.codeWith ({ cls := "WavesaleLaw", name := "priceIn", desc := "(LWavesale;IILWavesaleLaw$Out;)I" } : Jvm.MethodName) method_22_code (5 : Nat) (Option.some Jvm.ClassFile.FieldType.int) [((0 : Nat), (11 : Nat), (14 : Nat), (27 : Nat))]), (Jvm.Cond.methodLink "WavesaleLaw" (213 : Nat) ({ cls := "WavesaleLaw", name := "codeIn", desc := "(LWavesale;IIZLWavesaleLaw$Out;)I" } : Jvm.MethodName)), (Jvm.Cond.static ({ cls := "WavesaleLaw", name := "codeIn", desc := "(LWavesale;IIZLWavesaleLaw$Out;)I" } : Jvm.MethodName)), (Jvm.Cond.codeWith ({ cls := "WavesaleLaw", name := "codeIn", desc := "(LWavesale;IIZLWavesaleLaw$Out;)I" } : Jvm.MethodName) method_23_code (6 : Nat) (Option.some Jvm.ClassFile.FieldType.int) [((0 : Nat), (13 : Nat), (16 : Nat), (27 : Nat))]), (Jvm.Cond.methodLink "WavesaleLaw" (216 : Nat) ({ cls := "WavesaleLaw", name := "ofPackage", desc := "(LWavesale;IIZLWavesaleLaw$Out;)I" } : Jvm.MethodName)), (Jvm.Cond.static ({ cls := "WavesaleLaw", name := "ofPackage", desc := "(LWavesale;IIZLWavesaleLaw$Out;)I" } : Jvm.MethodName)), (Jvm.Cond.codeWith ({ cls := "WavesaleLaw", name := "ofPackage", desc := "(LWavesale;IIZLWavesaleLaw$Out;)I" } : Jvm.MethodName) method_24_code (6 : Nat) (Option.some Jvm.ClassFile.FieldType.int) [((0 : Nat), (13 : Nat), (16 : Nat), (27 : Nat))]), (Jvm.Cond.methodLink "WavesaleLaw" (219 : Nat) ({ cls := "WavesaleLaw", name := "wins", desc := "(LWavesale;ILWavesaleLaw$Out;)I" } : Jvm.MethodName)), (Jvm.Cond.static ({ cls := "WavesaleLaw", name := "wins", desc := "(LWavesale;ILWavesaleLaw$Out;)I" } : Jvm.MethodName)), (Jvm.Cond.codeWith ({ cls := "WavesaleLaw", name := "wins", desc := "(LWavesale;ILWavesaleLaw$Out;)I" } : Jvm.MethodName) method_25_code (4 : Nat) (Option.some Jvm.ClassFile.FieldType.int) [((0 : Nat), (10 : Nat), (13 : Nat), (27 : Nat))]), (Jvm.Cond.methodLink "WavesaleLaw" (222 : Nat) ({ cls := "WavesaleLaw", name := "pays", desc := "(LWavesale;IZLWavesaleLaw$Out;)I" } : Jvm.MethodName)), (Jvm.Cond.static ({ cls := "WavesaleLaw", name := "pays", desc := "(LWavesale;IZLWavesaleLaw$Out;)I" } : Jvm.MethodName)), (Jvm.Cond.codeWith ({ cls := "WavesaleLaw", name := "pays", desc := "(LWavesale;IZLWavesaleLaw$Out;)I" } : Jvm.MethodName) method_26_code (5 : Nat) (Option.some Jvm.ClassFile.FieldType.int) [((0 : Nat), (11 : Nat), (14 : Nat), (27 : Nat))]), (Jvm.Cond.methodLink "WavesaleLaw" (225 : Nat) ({ cls := "WavesaleLaw", name := "holder", desc := "(LWavesale;IILWavesaleLaw$Out;)I" } : Jvm.MethodName)), (Jvm.Cond.static ({ cls := "WavesaleLaw", name := "holder", desc := "(LWavesale;IILWavesaleLaw$Out;)I" } : Jvm.MethodName)), (Jvm.Cond.codeWith ({ cls := "WavesaleLaw", name := "holder", desc := "(LWavesale;IILWavesaleLaw$Out;)I" } : Jvm.MethodName) method_27_code (5 : Nat) (Option.some Jvm.ClassFile.FieldType.int) [((0 : Nat), (11 : Nat), (14 : Nat), (27 : Nat))]), (Jvm.Cond.methodLink "WavesaleLaw" (228 : Nat) ({ cls := "WavesaleLaw", name := "chart", desc := "(LWavesale;ILWavesaleLaw$Out;)I" } : Jvm.MethodName)), (Jvm.Cond.static ({ cls := "WavesaleLaw", name := "chart", desc := "(LWavesale;ILWavesaleLaw$Out;)I" } : Jvm.MethodName)), (Jvm.Cond.codeWith ({ cls := "WavesaleLaw", name := "chart", desc := "(LWavesale;ILWavesaleLaw$Out;)I" } : Jvm.MethodName) method_28_code (4 : Nat) (Option.some Jvm.ClassFile.FieldType.int) [((0 : Nat), (9 : Nat), (12 : Nat), (27 : Nat))]), (Jvm.Cond.methodLink "WavesaleLaw" (240 : Nat) ({ cls := "WavesaleLaw", name := "sale", desc := "(LWavesale;ILWavesaleLaw$Out;)I" } : Jvm.MethodName)), (Jvm.Cond.static ({ cls := "WavesaleLaw", name := "sale", desc := "(LWavesale;ILWavesaleLaw$Out;)I" } : Jvm.MethodName)), (Jvm.Cond.codeWith ({ cls := "WavesaleLaw", name := "sale", desc := "(LWavesale;ILWavesaleLaw$Out;)I" } : Jvm.MethodName) method_29_code (4 : Nat) (Option.some Jvm.ClassFile.FieldType.int) [((0 : Nat), (10 : Nat), (13 : Nat), (19 : Nat))]), (Jvm.Cond.methodLink "WavesaleLaw" (243 : Nat) ({ cls := "WavesaleLaw", name := "worth", desc := "(LWavesale;ILWavesaleLaw$Out;)I" } : Jvm.MethodName)), (Jvm.Cond.static ({ cls := "WavesaleLaw", name := "worth", desc := "(LWavesale;ILWavesaleLaw$Out;)I" } : Jvm.MethodName)), (Jvm.Cond.codeWith ({ cls := "WavesaleLaw", name := "worth", desc := "(LWavesale;ILWavesaleLaw$Out;)I" } : Jvm.MethodName) method_30_code (4 : Nat) (Option.some Jvm.ClassFile.FieldType.int) [((0 : Nat), (10 : Nat), (13 : Nat), (19 : Nat))]), (Jvm.Cond.methodLink "WavesaleLaw" (246 : Nat) ({ cls := "WavesaleLaw", name := "wouldPay", desc := "(LWavesale;IILWavesaleLaw$Out;)I" } : Jvm.MethodName)), (Jvm.Cond.static ({ cls := "WavesaleLaw", name := "wouldPay", desc := "(LWavesale;IILWavesaleLaw$Out;)I" } : Jvm.MethodName)), (Jvm.Cond.codeWith ({ cls := "WavesaleLaw", name := "wouldPay", desc := "(LWavesale;IILWavesaleLaw$Out;)I" } : Jvm.MethodName) method_31_code (5 : Nat) (Option.some Jvm.ClassFile.FieldType.int) [((0 : Nat), (11 : Nat), (14 : Nat), (27 : Nat)), ((0 : Nat), (11 : Nat), (18 : Nat), (19 : Nat))]), (Jvm.Cond.methodLink "WavesaleLaw" (249 : Nat) ({ cls := "WavesaleLaw", name := "objects", desc := "(LWavesale;IILWavesaleLaw$Out;)I" } : Jvm.MethodName)), (Jvm.Cond.static ({ cls := "WavesaleLaw", name := "objects", desc := "(LWavesale;IILWavesaleLaw$Out;)I" } : Jvm.MethodName)), (Jvm.Cond.codeWith ({ cls := "WavesaleLaw", name := "objects", desc := "(LWavesale;IILWavesaleLaw$Out;)I" } : Jvm.MethodName) method_32_code (5 : Nat) (Option.some Jvm.ClassFile.FieldType.int) [((0 : Nat), (11 : Nat), (14 : Nat), (19 : Nat))]), (Jvm.Cond.methodLink "WavesaleLaw" (252 : Nat) ({ cls := "WavesaleLaw", name := "most", desc := "(LWavesale;IILWavesaleLaw$Out;)I" } : Jvm.MethodName)), (Jvm.Cond.static ({ cls := "WavesaleLaw", name := "most", desc := "(LWavesale;IILWavesaleLaw$Out;)I" } : Jvm.MethodName)), (Jvm.Cond.codeWith ({ cls := "WavesaleLaw", name := "most", desc := "(LWavesale;IILWavesaleLaw$Out;)I" } : Jvm.MethodName) method_33_code (5 : Nat) (Option.some Jvm.ClassFile.FieldType.int) [((0 : Nat), (11 : Nat), (14 : Nat), (27 : Nat))]), (Jvm.Cond.methodLink "WavesaleLaw" (255 : Nat) ({ cls := "WavesaleLaw", name := "contradicts", desc := "(LWavesale;ILWavesaleLaw$Out;)I" } : Jvm.MethodName)), (Jvm.Cond.static ({ cls := "WavesaleLaw", name := "contradicts", desc := "(LWavesale;ILWavesaleLaw$Out;)I" } : Jvm.MethodName)), (Jvm.Cond.codeWith ({ cls := "WavesaleLaw", name := "contradicts", desc := "(LWavesale;ILWavesaleLaw$Out;)I" } : Jvm.MethodName) method_34_code (4 : Nat) (Option.some Jvm.ClassFile.FieldType.int) [((0 : Nat), (10 : Nat), (13 : Nat), (27 : Nat))]), (Jvm.Cond.methodLink "WavesaleLaw" (258 : Nat) ({ cls := "WavesaleLaw", name := "anew", desc := "(LWavesale;IIIILWavesaleLaw$Out;)I" } : Jvm.MethodName)), (Jvm.Cond.static ({ cls := "WavesaleLaw", name := "anew", desc := "(LWavesale;IIIILWavesaleLaw$Out;)I" } : Jvm.MethodName)), (Jvm.Cond.codeWith ({ cls := "WavesaleLaw", name := "anew", desc := "(LWavesale;IIIILWavesaleLaw$Out;)I" } : Jvm.MethodName) method_35_code (7 : Nat) (Option.some Jvm.ClassFile.FieldType.int) [((0 : Nat), (15 : Nat), (18 : Nat), (27 : Nat)), ((0 : Nat), (15 : Nat), (22 : Nat), (19 : Nat))])]
set_option maxRecDepth 100000 in
theorem gv_L : ∀ w ∈ gwl_L2, w ∈ xx_gws := xx_inT [88, 942, 0, 0, 0, 0, 36, 0, 0, 0, 32, 0, 0, 10, 0, 0, 4, 0, 0, 5, 0, 0, 9, 0, 0, 20, 0, 0, 10, 0, 0, 82, 0, 0, 21, 0, 0, 21, 0, 0, 9, 0, 0, 9, 0, 0, 9, 0, 0, 12, 0, 0, 8, 0, 0, 4, 0, 0, 4, 0, 0, 4, 0, 0, 5, 0, 0, 9, 0, 0, 4, 0, 0, 5, 0, 0, 4, 0, 0, 4, 0, 0, 5, 0, 0, 5, 0, 0, 4, 0, 0, 4, 0, 0, 4, 0, 0, 6, 0, 0, 9, 0, 0, 5, 0, 0] rfl (by decide +kernel)
theorem in_RL : Cond.initialized RL ∈ xx_gws := (gv_L _ (List.mem_of_getElem? (i := 0) rfl))
theorem ck_L_19 : Cond.classLink RL 19 "java/lang/IllegalArgumentException" ∈ xx_gws := (gv_L _ (List.mem_of_getElem? (i := 4) rfl))
theorem ck_L_21 : Cond.classLink RL 21 "java/lang/IllegalStateException" ∈ xx_gws := (gv_L _ (List.mem_of_getElem? (i := 5) rfl))
theorem ck_L_27 : Cond.classLink RL 27 "java/lang/IndexOutOfBoundsException" ∈ xx_gws := (gv_L _ (List.mem_of_getElem? (i := 9) rfl))
abbrev hh_L_region : List (Nat × Nat × Nat × Nat) := [(0, 13, 16, 19), (0, 13, 20, 21)]
theorem cw_L_region : Cond.codeWith m_L_region.1 m_L_region.2.1 m_L_region.2.2.1 m_L_region.2.2.2.1 hh_L_region ∈ xx_gws := (gv_L _ (List.mem_of_getElem? (i := 3) rfl))
theorem st_L_region : Cond.static yL_region ∈ xx_gws := (gv_L _ (List.mem_of_getElem? (i := 2) rfl))
abbrev hh_L_border : List (Nat × Nat × Nat × Nat) := [(0, 11, 14, 27), (0, 11, 18, 19), (0, 11, 22, 21)]
theorem cw_L_border : Cond.codeWith m_L_border.1 m_L_border.2.1 m_L_border.2.2.1 m_L_border.2.2.2.1 hh_L_border ∈ xx_gws := (gv_L _ (List.mem_of_getElem? (i := 8) rfl))
theorem st_L_border : Cond.static yL_border ∈ xx_gws := (gv_L _ (List.mem_of_getElem? (i := 7) rfl))
abbrev hh_L_bidder : List (Nat × Nat × Nat × Nat) := [(0, 15, 18, 19), (0, 15, 22, 21)]
theorem cw_L_bidder : Cond.codeWith m_L_bidder.1 m_L_bidder.2.1 m_L_bidder.2.2.1 m_L_bidder.2.2.2.1 hh_L_bidder ∈ xx_gws := (gv_L _ (List.mem_of_getElem? (i := 12) rfl))
theorem st_L_bidder : Cond.static yL_bidder ∈ xx_gws := (gv_L _ (List.mem_of_getElem? (i := 11) rfl))
abbrev hh_L_rules : List (Nat × Nat × Nat × Nat) := [(0, 11, 14, 19), (0, 11, 18, 21)]
theorem cw_L_rules : Cond.codeWith m_L_rules.1 m_L_rules.2.1 m_L_rules.2.2.1 m_L_rules.2.2.2.1 hh_L_rules ∈ xx_gws := (gv_L _ (List.mem_of_getElem? (i := 15) rfl))
theorem st_L_rules : Cond.static yL_rules ∈ xx_gws := (gv_L _ (List.mem_of_getElem? (i := 14) rfl))
abbrev hh_L_step : List (Nat × Nat × Nat × Nat) := [(0, 10, 13, 19), (0, 10, 16, 21)]
theorem cw_L_step : Cond.codeWith m_L_step.1 m_L_step.2.1 m_L_step.2.2.1 m_L_step.2.2.2.1 hh_L_step ∈ xx_gws := (gv_L _ (List.mem_of_getElem? (i := 18) rfl))
theorem st_L_step : Cond.static yL_step ∈ xx_gws := (gv_L _ (List.mem_of_getElem? (i := 17) rfl))
abbrev hh_L_open : List (Nat × Nat × Nat × Nat) := [(0, 9, 12, 21)]
theorem cw_L_open : Cond.codeWith m_L_open.1 m_L_open.2.1 m_L_open.2.2.1 m_L_open.2.2.2.1 hh_L_open ∈ xx_gws := (gv_L _ (List.mem_of_getElem? (i := 21) rfl))
theorem st_L_open : Cond.static yL_open ∈ xx_gws := (gv_L _ (List.mem_of_getElem? (i := 20) rfl))
abbrev hh_L_wish : List (Nat × Nat × Nat × Nat) := [(0, 13, 16, 27), (0, 13, 20, 19), (0, 13, 24, 21)]
theorem cw_L_wish : Cond.codeWith m_L_wish.1 m_L_wish.2.1 m_L_wish.2.2.1 m_L_wish.2.2.2.1 hh_L_wish ∈ xx_gws := (gv_L _ (List.mem_of_getElem? (i := 24) rfl))
theorem st_L_wish : Cond.static yL_wish ∈ xx_gws := (gv_L _ (List.mem_of_getElem? (i := 23) rfl))
abbrev hh_L_waive : List (Nat × Nat × Nat × Nat) := [(0, 10, 13, 27), (0, 10, 16, 21)]
theorem cw_L_waive : Cond.codeWith m_L_waive.1 m_L_waive.2.1 m_L_waive.2.2.1 m_L_waive.2.2.2.1 hh_L_waive ∈ xx_gws := (gv_L _ (List.mem_of_getElem? (i := 27) rfl))
theorem st_L_waive : Cond.static yL_waive ∈ xx_gws := (gv_L _ (List.mem_of_getElem? (i := 26) rfl))
abbrev hh_L_close : List (Nat × Nat × Nat × Nat) := [(0, 10, 13, 19), (0, 10, 16, 21)]
theorem cw_L_close : Cond.codeWith m_L_close.1 m_L_close.2.1 m_L_close.2.2.1 m_L_close.2.2.2.1 hh_L_close ∈ xx_gws := (gv_L _ (List.mem_of_getElem? (i := 30) rfl))
theorem st_L_close : Cond.static yL_close ∈ xx_gws := (gv_L _ (List.mem_of_getElem? (i := 29) rfl))
abbrev hh_L_offer : List (Nat × Nat × Nat × Nat) := [(0, 13, 16, 27), (0, 13, 20, 19), (0, 13, 24, 21)]
theorem cw_L_offer : Cond.codeWith m_L_offer.1 m_L_offer.2.1 m_L_offer.2.2.1 m_L_offer.2.2.2.1 hh_L_offer ∈ xx_gws := (gv_L _ (List.mem_of_getElem? (i := 33) rfl))
theorem st_L_offer : Cond.static yL_offer ∈ xx_gws := (gv_L _ (List.mem_of_getElem? (i := 32) rfl))
abbrev hh_L_settle : List (Nat × Nat × Nat × Nat) := [(0, 10, 13, 19), (0, 10, 16, 21)]
theorem cw_L_settle : Cond.codeWith m_L_settle.1 m_L_settle.2.1 m_L_settle.2.2.1 m_L_settle.2.2.2.1 hh_L_settle ∈ xx_gws := (gv_L _ (List.mem_of_getElem? (i := 36) rfl))
theorem st_L_settle : Cond.static yL_settle ∈ xx_gws := (gv_L _ (List.mem_of_getElem? (i := 35) rfl))
abbrev hh_L_fail : List (Nat × Nat × Nat × Nat) := [(0, 10, 13, 27), (0, 10, 16, 21)]
theorem cw_L_fail : Cond.codeWith m_L_fail.1 m_L_fail.2.1 m_L_fail.2.2.1 m_L_fail.2.2.2.1 hh_L_fail ∈ xx_gws := (gv_L _ (List.mem_of_getElem? (i := 39) rfl))
theorem st_L_fail : Cond.static yL_fail ∈ xx_gws := (gv_L _ (List.mem_of_getElem? (i := 38) rfl))
abbrev hh_L_station : List (Nat × Nat × Nat × Nat) := [(0, 11, 14, 27), (0, 11, 18, 19), (0, 11, 22, 21)]
theorem cw_L_station : Cond.codeWith m_L_station.1 m_L_station.2.1 m_L_station.2.2.1 m_L_station.2.2.2.1 hh_L_station ∈ xx_gws := (gv_L _ (List.mem_of_getElem? (i := 42) rfl))
theorem st_L_station : Cond.static yL_station ∈ xx_gws := (gv_L _ (List.mem_of_getElem? (i := 41) rfl))
abbrev hh_L_ask : List (Nat × Nat × Nat × Nat) := [(0, 11, 14, 27), (0, 11, 18, 19)]
theorem cw_L_ask : Cond.codeWith m_L_ask.1 m_L_ask.2.1 m_L_ask.2.2.1 m_L_ask.2.2.2.1 hh_L_ask ∈ xx_gws := (gv_L _ (List.mem_of_getElem? (i := 45) rfl))
theorem st_L_ask : Cond.static yL_ask ∈ xx_gws := (gv_L _ (List.mem_of_getElem? (i := 44) rfl))
abbrev hh_L_packs : List (Nat × Nat × Nat × Nat) := [(0, 18, 21, 19)]
theorem cw_L_packs : Cond.codeWith m_L_packs.1 m_L_packs.2.1 m_L_packs.2.2.1 m_L_packs.2.2.2.1 hh_L_packs ∈ xx_gws := (gv_L _ (List.mem_of_getElem? (i := 48) rfl))
theorem st_L_packs : Cond.static yL_packs ∈ xx_gws := (gv_L _ (List.mem_of_getElem? (i := 47) rfl))
abbrev hh_L_channel : List (Nat × Nat × Nat × Nat) := [(0, 13, 16, 27), (0, 13, 20, 19)]
theorem cw_L_channel : Cond.codeWith m_L_channel.1 m_L_channel.2.1 m_L_channel.2.2.1 m_L_channel.2.2.2.1 hh_L_channel ∈ xx_gws := (gv_L _ (List.mem_of_getElem? (i := 51) rfl))
theorem st_L_channel : Cond.static yL_channel ∈ xx_gws := (gv_L _ (List.mem_of_getElem? (i := 50) rfl))
abbrev hh_L_clear : List (Nat × Nat × Nat × Nat) := [(0, 10, 13, 19)]
theorem cw_L_clear : Cond.codeWith m_L_clear.1 m_L_clear.2.1 m_L_clear.2.2.1 m_L_clear.2.2.2.1 hh_L_clear ∈ xx_gws := (gv_L _ (List.mem_of_getElem? (i := 54) rfl))
theorem st_L_clear : Cond.static yL_clear ∈ xx_gws := (gv_L _ (List.mem_of_getElem? (i := 53) rfl))
abbrev hh_L_ofRegion : List (Nat × Nat × Nat × Nat) := [(0, 11, 14, 27), (0, 11, 18, 19)]
theorem cw_L_ofRegion : Cond.codeWith m_L_ofRegion.1 m_L_ofRegion.2.1 m_L_ofRegion.2.2.1 m_L_ofRegion.2.2.2.1 hh_L_ofRegion ∈ xx_gws := (gv_L _ (List.mem_of_getElem? (i := 57) rfl))
theorem st_L_ofRegion : Cond.static yL_ofRegion ∈ xx_gws := (gv_L _ (List.mem_of_getElem? (i := 56) rfl))
abbrev hh_L_ofBidder : List (Nat × Nat × Nat × Nat) := [(0, 11, 14, 27), (0, 11, 18, 19)]
theorem cw_L_ofBidder : Cond.codeWith m_L_ofBidder.1 m_L_ofBidder.2.1 m_L_ofBidder.2.2.1 m_L_ofBidder.2.2.2.1 hh_L_ofBidder ∈ xx_gws := (gv_L _ (List.mem_of_getElem? (i := 60) rfl))
theorem st_L_ofBidder : Cond.static yL_ofBidder ∈ xx_gws := (gv_L _ (List.mem_of_getElem? (i := 59) rfl))
abbrev hh_L_wants : List (Nat × Nat × Nat × Nat) := [(0, 13, 16, 27)]
theorem cw_L_wants : Cond.codeWith m_L_wants.1 m_L_wants.2.1 m_L_wants.2.2.1 m_L_wants.2.2.2.1 hh_L_wants ∈ xx_gws := (gv_L _ (List.mem_of_getElem? (i := 63) rfl))
theorem st_L_wants : Cond.static yL_wants ∈ xx_gws := (gv_L _ (List.mem_of_getElem? (i := 62) rfl))
abbrev hh_L_priceIn : List (Nat × Nat × Nat × Nat) := [(0, 11, 14, 27)]
theorem cw_L_priceIn : Cond.codeWith m_L_priceIn.1 m_L_priceIn.2.1 m_L_priceIn.2.2.1 m_L_priceIn.2.2.2.1 hh_L_priceIn ∈ xx_gws := (gv_L _ (List.mem_of_getElem? (i := 66) rfl))
theorem st_L_priceIn : Cond.static yL_priceIn ∈ xx_gws := (gv_L _ (List.mem_of_getElem? (i := 65) rfl))
abbrev hh_L_codeIn : List (Nat × Nat × Nat × Nat) := [(0, 13, 16, 27)]
theorem cw_L_codeIn : Cond.codeWith m_L_codeIn.1 m_L_codeIn.2.1 m_L_codeIn.2.2.1 m_L_codeIn.2.2.2.1 hh_L_codeIn ∈ xx_gws := (gv_L _ (List.mem_of_getElem? (i := 69) rfl))
theorem st_L_codeIn : Cond.static yL_codeIn ∈ xx_gws := (gv_L _ (List.mem_of_getElem? (i := 68) rfl))
abbrev hh_L_ofPackage : List (Nat × Nat × Nat × Nat) := [(0, 13, 16, 27)]
theorem cw_L_ofPackage : Cond.codeWith m_L_ofPackage.1 m_L_ofPackage.2.1 m_L_ofPackage.2.2.1 m_L_ofPackage.2.2.2.1 hh_L_ofPackage ∈ xx_gws := (gv_L _ (List.mem_of_getElem? (i := 72) rfl))
theorem st_L_ofPackage : Cond.static yL_ofPackage ∈ xx_gws := (gv_L _ (List.mem_of_getElem? (i := 71) rfl))
abbrev hh_L_wins : List (Nat × Nat × Nat × Nat) := [(0, 10, 13, 27)]
theorem cw_L_wins : Cond.codeWith m_L_wins.1 m_L_wins.2.1 m_L_wins.2.2.1 m_L_wins.2.2.2.1 hh_L_wins ∈ xx_gws := (gv_L _ (List.mem_of_getElem? (i := 75) rfl))
theorem st_L_wins : Cond.static yL_wins ∈ xx_gws := (gv_L _ (List.mem_of_getElem? (i := 74) rfl))
abbrev hh_L_pays : List (Nat × Nat × Nat × Nat) := [(0, 11, 14, 27)]
theorem cw_L_pays : Cond.codeWith m_L_pays.1 m_L_pays.2.1 m_L_pays.2.2.1 m_L_pays.2.2.2.1 hh_L_pays ∈ xx_gws := (gv_L _ (List.mem_of_getElem? (i := 78) rfl))
theorem st_L_pays : Cond.static yL_pays ∈ xx_gws := (gv_L _ (List.mem_of_getElem? (i := 77) rfl))
abbrev hh_L_holder : List (Nat × Nat × Nat × Nat) := [(0, 11, 14, 27)]
theorem cw_L_holder : Cond.codeWith m_L_holder.1 m_L_holder.2.1 m_L_holder.2.2.1 m_L_holder.2.2.2.1 hh_L_holder ∈ xx_gws := (gv_L _ (List.mem_of_getElem? (i := 81) rfl))
theorem st_L_holder : Cond.static yL_holder ∈ xx_gws := (gv_L _ (List.mem_of_getElem? (i := 80) rfl))
abbrev hh_L_chart : List (Nat × Nat × Nat × Nat) := [(0, 9, 12, 27)]
theorem cw_L_chart : Cond.codeWith m_L_chart.1 m_L_chart.2.1 m_L_chart.2.2.1 m_L_chart.2.2.2.1 hh_L_chart ∈ xx_gws := (gv_L _ (List.mem_of_getElem? (i := 84) rfl))
theorem st_L_chart : Cond.static yL_chart ∈ xx_gws := (gv_L _ (List.mem_of_getElem? (i := 83) rfl))
abbrev hh_L_sale : List (Nat × Nat × Nat × Nat) := [(0, 10, 13, 19)]
theorem cw_L_sale : Cond.codeWith m_L_sale.1 m_L_sale.2.1 m_L_sale.2.2.1 m_L_sale.2.2.2.1 hh_L_sale ∈ xx_gws := (gv_L _ (List.mem_of_getElem? (i := 87) rfl))
theorem st_L_sale : Cond.static yL_sale ∈ xx_gws := (gv_L _ (List.mem_of_getElem? (i := 86) rfl))
abbrev hh_L_worth : List (Nat × Nat × Nat × Nat) := [(0, 10, 13, 19)]
theorem cw_L_worth : Cond.codeWith m_L_worth.1 m_L_worth.2.1 m_L_worth.2.2.1 m_L_worth.2.2.2.1 hh_L_worth ∈ xx_gws := (gv_L _ (List.mem_of_getElem? (i := 90) rfl))
theorem st_L_worth : Cond.static yL_worth ∈ xx_gws := (gv_L _ (List.mem_of_getElem? (i := 89) rfl))
abbrev hh_L_wouldPay : List (Nat × Nat × Nat × Nat) := [(0, 11, 14, 27), (0, 11, 18, 19)]
theorem cw_L_wouldPay : Cond.codeWith m_L_wouldPay.1 m_L_wouldPay.2.1 m_L_wouldPay.2.2.1 m_L_wouldPay.2.2.2.1 hh_L_wouldPay ∈ xx_gws := (gv_L _ (List.mem_of_getElem? (i := 93) rfl))
theorem st_L_wouldPay : Cond.static yL_wouldPay ∈ xx_gws := (gv_L _ (List.mem_of_getElem? (i := 92) rfl))
abbrev hh_L_objects : List (Nat × Nat × Nat × Nat) := [(0, 11, 14, 19)]
theorem cw_L_objects : Cond.codeWith m_L_objects.1 m_L_objects.2.1 m_L_objects.2.2.1 m_L_objects.2.2.2.1 hh_L_objects ∈ xx_gws := (gv_L _ (List.mem_of_getElem? (i := 96) rfl))
theorem st_L_objects : Cond.static yL_objects ∈ xx_gws := (gv_L _ (List.mem_of_getElem? (i := 95) rfl))
abbrev hh_L_most : List (Nat × Nat × Nat × Nat) := [(0, 11, 14, 27)]
theorem cw_L_most : Cond.codeWith m_L_most.1 m_L_most.2.1 m_L_most.2.2.1 m_L_most.2.2.2.1 hh_L_most ∈ xx_gws := (gv_L _ (List.mem_of_getElem? (i := 99) rfl))
theorem st_L_most : Cond.static yL_most ∈ xx_gws := (gv_L _ (List.mem_of_getElem? (i := 98) rfl))
abbrev hh_L_contradicts : List (Nat × Nat × Nat × Nat) := [(0, 10, 13, 27)]
theorem cw_L_contradicts : Cond.codeWith m_L_contradicts.1 m_L_contradicts.2.1 m_L_contradicts.2.2.1 m_L_contradicts.2.2.2.1 hh_L_contradicts ∈ xx_gws := (gv_L _ (List.mem_of_getElem? (i := 102) rfl))
theorem st_L_contradicts : Cond.static yL_contradicts ∈ xx_gws := (gv_L _ (List.mem_of_getElem? (i := 101) rfl))
abbrev hh_L_anew : List (Nat × Nat × Nat × Nat) := [(0, 15, 18, 27), (0, 15, 22, 19)]
theorem cw_L_anew : Cond.codeWith m_L_anew.1 m_L_anew.2.1 m_L_anew.2.2.1 m_L_anew.2.2.2.1 hh_L_anew ∈ xx_gws := (gv_L _ (List.mem_of_getElem? (i := 105) rfl))
theorem st_L_anew : Cond.static yL_anew ∈ xx_gws := (gv_L _ (List.mem_of_getElem? (i := 104) rfl))
theorem mk_L_141 : Cond.methodLink RL 141 yL_region ∈ xx_gws := (gv_L _ (List.mem_of_getElem? (i := 1) rfl))
theorem mk_L_147 : Cond.methodLink RL 147 yL_border ∈ xx_gws := (gv_L _ (List.mem_of_getElem? (i := 6) rfl))
theorem mk_L_151 : Cond.methodLink RL 151 yL_bidder ∈ xx_gws := (gv_L _ (List.mem_of_getElem? (i := 10) rfl))
theorem mk_L_155 : Cond.methodLink RL 155 yL_rules ∈ xx_gws := (gv_L _ (List.mem_of_getElem? (i := 13) rfl))
theorem mk_L_159 : Cond.methodLink RL 159 yL_step ∈ xx_gws := (gv_L _ (List.mem_of_getElem? (i := 16) rfl))
theorem mk_L_163 : Cond.methodLink RL 163 yL_open ∈ xx_gws := (gv_L _ (List.mem_of_getElem? (i := 19) rfl))
theorem mk_L_167 : Cond.methodLink RL 167 yL_wish ∈ xx_gws := (gv_L _ (List.mem_of_getElem? (i := 22) rfl))
theorem mk_L_170 : Cond.methodLink RL 170 yL_waive ∈ xx_gws := (gv_L _ (List.mem_of_getElem? (i := 25) rfl))
theorem mk_L_173 : Cond.methodLink RL 173 yL_close ∈ xx_gws := (gv_L _ (List.mem_of_getElem? (i := 28) rfl))
theorem mk_L_176 : Cond.methodLink RL 176 yL_offer ∈ xx_gws := (gv_L _ (List.mem_of_getElem? (i := 31) rfl))
theorem mk_L_179 : Cond.methodLink RL 179 yL_settle ∈ xx_gws := (gv_L _ (List.mem_of_getElem? (i := 34) rfl))
theorem mk_L_182 : Cond.methodLink RL 182 yL_fail ∈ xx_gws := (gv_L _ (List.mem_of_getElem? (i := 37) rfl))
theorem mk_L_185 : Cond.methodLink RL 185 yL_station ∈ xx_gws := (gv_L _ (List.mem_of_getElem? (i := 40) rfl))
theorem mk_L_188 : Cond.methodLink RL 188 yL_ask ∈ xx_gws := (gv_L _ (List.mem_of_getElem? (i := 43) rfl))
theorem mk_L_191 : Cond.methodLink RL 191 yL_packs ∈ xx_gws := (gv_L _ (List.mem_of_getElem? (i := 46) rfl))
theorem mk_L_194 : Cond.methodLink RL 194 yL_channel ∈ xx_gws := (gv_L _ (List.mem_of_getElem? (i := 49) rfl))
theorem mk_L_197 : Cond.methodLink RL 197 yL_clear ∈ xx_gws := (gv_L _ (List.mem_of_getElem? (i := 52) rfl))
theorem mk_L_200 : Cond.methodLink RL 200 yL_ofRegion ∈ xx_gws := (gv_L _ (List.mem_of_getElem? (i := 55) rfl))
theorem mk_L_203 : Cond.methodLink RL 203 yL_ofBidder ∈ xx_gws := (gv_L _ (List.mem_of_getElem? (i := 58) rfl))
theorem mk_L_206 : Cond.methodLink RL 206 yL_wants ∈ xx_gws := (gv_L _ (List.mem_of_getElem? (i := 61) rfl))
theorem mk_L_210 : Cond.methodLink RL 210 yL_priceIn ∈ xx_gws := (gv_L _ (List.mem_of_getElem? (i := 64) rfl))
theorem mk_L_213 : Cond.methodLink RL 213 yL_codeIn ∈ xx_gws := (gv_L _ (List.mem_of_getElem? (i := 67) rfl))
theorem mk_L_216 : Cond.methodLink RL 216 yL_ofPackage ∈ xx_gws := (gv_L _ (List.mem_of_getElem? (i := 70) rfl))
theorem mk_L_219 : Cond.methodLink RL 219 yL_wins ∈ xx_gws := (gv_L _ (List.mem_of_getElem? (i := 73) rfl))
theorem mk_L_222 : Cond.methodLink RL 222 yL_pays ∈ xx_gws := (gv_L _ (List.mem_of_getElem? (i := 76) rfl))
theorem mk_L_225 : Cond.methodLink RL 225 yL_holder ∈ xx_gws := (gv_L _ (List.mem_of_getElem? (i := 79) rfl))
theorem mk_L_228 : Cond.methodLink RL 228 yL_chart ∈ xx_gws := (gv_L _ (List.mem_of_getElem? (i := 82) rfl))
theorem mk_L_240 : Cond.methodLink RL 240 yL_sale ∈ xx_gws := (gv_L _ (List.mem_of_getElem? (i := 85) rfl))
theorem mk_L_243 : Cond.methodLink RL 243 yL_worth ∈ xx_gws := (gv_L _ (List.mem_of_getElem? (i := 88) rfl))
theorem mk_L_246 : Cond.methodLink RL 246 yL_wouldPay ∈ xx_gws := (gv_L _ (List.mem_of_getElem? (i := 91) rfl))
theorem mk_L_249 : Cond.methodLink RL 249 yL_objects ∈ xx_gws := (gv_L _ (List.mem_of_getElem? (i := 94) rfl))
theorem mk_L_252 : Cond.methodLink RL 252 yL_most ∈ xx_gws := (gv_L _ (List.mem_of_getElem? (i := 97) rfl))
theorem mk_L_255 : Cond.methodLink RL 255 yL_contradicts ∈ xx_gws := (gv_L _ (List.mem_of_getElem? (i := 100) rfl))
theorem mk_L_258 : Cond.methodLink RL 258 yL_anew ∈ xx_gws := (gv_L _ (List.mem_of_getElem? (i := 103) rfl))
theorem ch_L_region : xx_ceH m_L_region hh_L_region := ⟨cw_L_region, in_RL, ⟨by decide, by decide⟩, by decide +kernel, by decide⟩
theorem ch_L_border : xx_ceH m_L_border hh_L_border := ⟨cw_L_border, in_RL, ⟨by decide, by decide⟩, by decide +kernel, by decide⟩
theorem ch_L_bidder : xx_ceH m_L_bidder hh_L_bidder := ⟨cw_L_bidder, in_RL, ⟨by decide, by decide⟩, by decide +kernel, by decide⟩
theorem ch_L_rules : xx_ceH m_L_rules hh_L_rules := ⟨cw_L_rules, in_RL, ⟨by decide, by decide⟩, by decide +kernel, by decide⟩
theorem ch_L_step : xx_ceH m_L_step hh_L_step := ⟨cw_L_step, in_RL, ⟨by decide, by decide⟩, by decide +kernel, by decide⟩
theorem ch_L_open : xx_ceH m_L_open hh_L_open := ⟨cw_L_open, in_RL, ⟨by decide, by decide⟩, by decide +kernel, by decide⟩
theorem ch_L_wish : xx_ceH m_L_wish hh_L_wish := ⟨cw_L_wish, in_RL, ⟨by decide, by decide⟩, by decide +kernel, by decide⟩
theorem ch_L_waive : xx_ceH m_L_waive hh_L_waive := ⟨cw_L_waive, in_RL, ⟨by decide, by decide⟩, by decide +kernel, by decide⟩
theorem ch_L_close : xx_ceH m_L_close hh_L_close := ⟨cw_L_close, in_RL, ⟨by decide, by decide⟩, by decide +kernel, by decide⟩
theorem ch_L_offer : xx_ceH m_L_offer hh_L_offer := ⟨cw_L_offer, in_RL, ⟨by decide, by decide⟩, by decide +kernel, by decide⟩
theorem ch_L_settle : xx_ceH m_L_settle hh_L_settle := ⟨cw_L_settle, in_RL, ⟨by decide, by decide⟩, by decide +kernel, by decide⟩
theorem ch_L_fail : xx_ceH m_L_fail hh_L_fail := ⟨cw_L_fail, in_RL, ⟨by decide, by decide⟩, by decide +kernel, by decide⟩
theorem ch_L_station : xx_ceH m_L_station hh_L_station := ⟨cw_L_station, in_RL, ⟨by decide, by decide⟩, by decide +kernel, by decide⟩
theorem ch_L_ask : xx_ceH m_L_ask hh_L_ask := ⟨cw_L_ask, in_RL, ⟨by decide, by decide⟩, by decide +kernel, by decide⟩
theorem ch_L_packs : xx_ceH m_L_packs hh_L_packs := ⟨cw_L_packs, in_RL, ⟨by decide, by decide⟩, by decide +kernel, by decide⟩
theorem ch_L_channel : xx_ceH m_L_channel hh_L_channel := ⟨cw_L_channel, in_RL, ⟨by decide, by decide⟩, by decide +kernel, by decide⟩
theorem ch_L_clear : xx_ceH m_L_clear hh_L_clear := ⟨cw_L_clear, in_RL, ⟨by decide, by decide⟩, by decide +kernel, by decide⟩
theorem ch_L_ofRegion : xx_ceH m_L_ofRegion hh_L_ofRegion := ⟨cw_L_ofRegion, in_RL, ⟨by decide, by decide⟩, by decide +kernel, by decide⟩
theorem ch_L_ofBidder : xx_ceH m_L_ofBidder hh_L_ofBidder := ⟨cw_L_ofBidder, in_RL, ⟨by decide, by decide⟩, by decide +kernel, by decide⟩
theorem ch_L_wants : xx_ceH m_L_wants hh_L_wants := ⟨cw_L_wants, in_RL, ⟨by decide, by decide⟩, by decide +kernel, by decide⟩
theorem ch_L_priceIn : xx_ceH m_L_priceIn hh_L_priceIn := ⟨cw_L_priceIn, in_RL, ⟨by decide, by decide⟩, by decide +kernel, by decide⟩
theorem ch_L_codeIn : xx_ceH m_L_codeIn hh_L_codeIn := ⟨cw_L_codeIn, in_RL, ⟨by decide, by decide⟩, by decide +kernel, by decide⟩
theorem ch_L_ofPackage : xx_ceH m_L_ofPackage hh_L_ofPackage := ⟨cw_L_ofPackage, in_RL, ⟨by decide, by decide⟩, by decide +kernel, by decide⟩
theorem ch_L_wins : xx_ceH m_L_wins hh_L_wins := ⟨cw_L_wins, in_RL, ⟨by decide, by decide⟩, by decide +kernel, by decide⟩
theorem ch_L_pays : xx_ceH m_L_pays hh_L_pays := ⟨cw_L_pays, in_RL, ⟨by decide, by decide⟩, by decide +kernel, by decide⟩
theorem ch_L_holder : xx_ceH m_L_holder hh_L_holder := ⟨cw_L_holder, in_RL, ⟨by decide, by decide⟩, by decide +kernel, by decide⟩
theorem ch_L_chart : xx_ceH m_L_chart hh_L_chart := ⟨cw_L_chart, in_RL, ⟨by decide, by decide⟩, by decide +kernel, by decide⟩
theorem ch_L_sale : xx_ceH m_L_sale hh_L_sale := ⟨cw_L_sale, in_RL, ⟨by decide, by decide⟩, by decide +kernel, by decide⟩
theorem ch_L_worth : xx_ceH m_L_worth hh_L_worth := ⟨cw_L_worth, in_RL, ⟨by decide, by decide⟩, by decide +kernel, by decide⟩
theorem ch_L_wouldPay : xx_ceH m_L_wouldPay hh_L_wouldPay := ⟨cw_L_wouldPay, in_RL, ⟨by decide, by decide⟩, by decide +kernel, by decide⟩
theorem ch_L_objects : xx_ceH m_L_objects hh_L_objects := ⟨cw_L_objects, in_RL, ⟨by decide, by decide⟩, by decide +kernel, by decide⟩
theorem ch_L_most : xx_ceH m_L_most hh_L_most := ⟨cw_L_most, in_RL, ⟨by decide, by decide⟩, by decide +kernel, by decide⟩
theorem ch_L_contradicts : xx_ceH m_L_contradicts hh_L_contradicts := ⟨cw_L_contradicts, in_RL, ⟨by decide, by decide⟩, by decide +kernel, by decide⟩
theorem ch_L_anew : xx_ceH m_L_anew hh_L_anew := ⟨cw_L_anew, in_RL, ⟨by decide, by decide⟩, by decide +kernel, by decide⟩
noncomputable def dt_L_region : List (Nat × Instr × Nat) := [(0, .aload 4, 2), (2, .aload_n 0, 1), (3, .iload_n 1, 1), (4, .iload_n 2, 1), (5, .iload_n 3, 1), (6, .invokevirtual 7, 3), (9, .i2l, 1), (10, .putfield 13, 3), (13, .goto 11, 3), (16, .astore 5, 2), (18, .iconst 1, 1), (19, .ireturn, 1), (20, .astore 5, 2), (22, .iconst 2, 1), (23, .ireturn, 1), (24, .iconst 0, 1), (25, .ireturn, 1)]
theorem dd_L_region : ∀ q ∈ dt_L_region, decode cL_region q.1 = .ok q.2 := by
  first
  | (refine dw_all ?_; decide +kernel)
  | decide +kernel
noncomputable def dt_L_border : List (Nat × Instr × Nat) := [(0, .aload_n 3, 1), (1, .aload_n 0, 1), (2, .iload_n 1, 1), (3, .iload_n 2, 1), (4, .invokevirtual 23, 3), (7, .i2l, 1), (8, .putfield 13, 3), (11, .goto 15, 3), (14, .astore 4, 2), (16, .iconst 1, 1), (17, .ireturn, 1), (18, .astore 4, 2), (20, .iconst 2, 1), (21, .ireturn, 1), (22, .astore 4, 2), (24, .iconst 3, 1), (25, .ireturn, 1), (26, .iconst 0, 1), (27, .ireturn, 1)]
theorem dd_L_border : ∀ q ∈ dt_L_border, decode cL_border q.1 = .ok q.2 := by
  first
  | (refine dw_all ?_; decide +kernel)
  | decide +kernel
noncomputable def dt_L_bidder : List (Nat × Instr × Nat) := [(0, .aload 5, 2), (2, .aload_n 0, 1), (3, .iload_n 1, 1), (4, .iload_n 2, 1), (5, .iload_n 3, 1), (6, .iload 4, 2), (8, .invokevirtual 29, 3), (11, .i2l, 1), (12, .putfield 13, 3), (15, .goto 11, 3), (18, .astore 6, 2), (20, .iconst 1, 1), (21, .ireturn, 1), (22, .astore 6, 2), (24, .iconst 2, 1), (25, .ireturn, 1), (26, .iconst 0, 1), (27, .ireturn, 1)]
theorem dd_L_bidder : ∀ q ∈ dt_L_bidder, decode cL_bidder q.1 = .ok q.2 := by
  first
  | (refine dw_all ?_; decide +kernel)
  | decide +kernel
noncomputable def dt_L_rules : List (Nat × Instr × Nat) := [(0, .aload_n 3, 1), (1, .aload_n 0, 1), (2, .iload_n 1, 1), (3, .iload_n 2, 1), (4, .invokevirtual 33, 3), (7, .i2l, 1), (8, .putfield 13, 3), (11, .goto 11, 3), (14, .astore 4, 2), (16, .iconst 1, 1), (17, .ireturn, 1), (18, .astore 4, 2), (20, .iconst 2, 1), (21, .ireturn, 1), (22, .iconst 0, 1), (23, .ireturn, 1)]
theorem dd_L_rules : ∀ q ∈ dt_L_rules, decode cL_rules q.1 = .ok q.2 := by
  first
  | (refine dw_all ?_; decide +kernel)
  | decide +kernel
noncomputable def dt_L_step : List (Nat × Instr × Nat) := [(0, .aload_n 2, 1), (1, .aload_n 0, 1), (2, .iload_n 1, 1), (3, .invokevirtual 37, 3), (6, .i2l, 1), (7, .putfield 13, 3), (10, .goto 9, 3), (13, .astore_n 3, 1), (14, .iconst 1, 1), (15, .ireturn, 1), (16, .astore_n 3, 1), (17, .iconst 2, 1), (18, .ireturn, 1), (19, .iconst 0, 1), (20, .ireturn, 1)]
theorem dd_L_step : ∀ q ∈ dt_L_step, decode cL_step q.1 = .ok q.2 := by
  first
  | (refine dw_all ?_; decide +kernel)
  | decide +kernel
noncomputable def dt_L_open : List (Nat × Instr × Nat) := [(0, .aload_n 1, 1), (1, .aload_n 0, 1), (2, .invokevirtual 41, 3), (5, .i2l, 1), (6, .putfield 13, 3), (9, .goto 6, 3), (12, .astore_n 2, 1), (13, .iconst 1, 1), (14, .ireturn, 1), (15, .iconst 0, 1), (16, .ireturn, 1)]
theorem dd_L_open : ∀ q ∈ dt_L_open, decode cL_open q.1 = .ok q.2 := by
  first
  | (refine dw_all ?_; decide +kernel)
  | decide +kernel
noncomputable def dt_L_wish : List (Nat × Instr × Nat) := [(0, .aload 4, 2), (2, .aload_n 0, 1), (3, .iload_n 1, 1), (4, .iload_n 2, 1), (5, .iload_n 3, 1), (6, .invokevirtual 45, 3), (9, .i2l, 1), (10, .putfield 13, 3), (13, .goto 15, 3), (16, .astore 5, 2), (18, .iconst 1, 1), (19, .ireturn, 1), (20, .astore 5, 2), (22, .iconst 2, 1), (23, .ireturn, 1), (24, .astore 5, 2), (26, .iconst 3, 1), (27, .ireturn, 1), (28, .iconst 0, 1), (29, .ireturn, 1)]
theorem dd_L_wish : ∀ q ∈ dt_L_wish, decode cL_wish q.1 = .ok q.2 := by
  first
  | (refine dw_all ?_; decide +kernel)
  | decide +kernel
noncomputable def dt_L_waive : List (Nat × Instr × Nat) := [(0, .aload_n 2, 1), (1, .aload_n 0, 1), (2, .iload_n 1, 1), (3, .invokevirtual 48, 3), (6, .i2l, 1), (7, .putfield 13, 3), (10, .goto 9, 3), (13, .astore_n 3, 1), (14, .iconst 1, 1), (15, .ireturn, 1), (16, .astore_n 3, 1), (17, .iconst 2, 1), (18, .ireturn, 1), (19, .iconst 0, 1), (20, .ireturn, 1)]
theorem dd_L_waive : ∀ q ∈ dt_L_waive, decode cL_waive q.1 = .ok q.2 := by
  first
  | (refine dw_all ?_; decide +kernel)
  | decide +kernel
noncomputable def dt_L_close : List (Nat × Instr × Nat) := [(0, .aload_n 2, 1), (1, .aload_n 0, 1), (2, .iload_n 1, 1), (3, .invokevirtual 51, 3), (6, .i2l, 1), (7, .putfield 13, 3), (10, .goto 9, 3), (13, .astore_n 3, 1), (14, .iconst 1, 1), (15, .ireturn, 1), (16, .astore_n 3, 1), (17, .iconst 2, 1), (18, .ireturn, 1), (19, .iconst 0, 1), (20, .ireturn, 1)]
theorem dd_L_close : ∀ q ∈ dt_L_close, decode cL_close q.1 = .ok q.2 := by
  first
  | (refine dw_all ?_; decide +kernel)
  | decide +kernel
noncomputable def dt_L_offer : List (Nat × Instr × Nat) := [(0, .aload 4, 2), (2, .aload_n 0, 1), (3, .iload_n 1, 1), (4, .iload_n 2, 1), (5, .iload_n 3, 1), (6, .invokevirtual 54, 3), (9, .i2l, 1), (10, .putfield 13, 3), (13, .goto 15, 3), (16, .astore 5, 2), (18, .iconst 1, 1), (19, .ireturn, 1), (20, .astore 5, 2), (22, .iconst 2, 1), (23, .ireturn, 1), (24, .astore 5, 2), (26, .iconst 3, 1), (27, .ireturn, 1), (28, .iconst 0, 1), (29, .ireturn, 1)]
theorem dd_L_offer : ∀ q ∈ dt_L_offer, decode cL_offer q.1 = .ok q.2 := by
  first
  | (refine dw_all ?_; decide +kernel)
  | decide +kernel
noncomputable def dt_L_settle : List (Nat × Instr × Nat) := [(0, .aload_n 2, 1), (1, .aload_n 0, 1), (2, .iload_n 1, 1), (3, .invokevirtual 57, 3), (6, .i2l, 1), (7, .putfield 13, 3), (10, .goto 9, 3), (13, .astore_n 3, 1), (14, .iconst 1, 1), (15, .ireturn, 1), (16, .astore_n 3, 1), (17, .iconst 2, 1), (18, .ireturn, 1), (19, .iconst 0, 1), (20, .ireturn, 1)]
theorem dd_L_settle : ∀ q ∈ dt_L_settle, decode cL_settle q.1 = .ok q.2 := by
  first
  | (refine dw_all ?_; decide +kernel)
  | decide +kernel
noncomputable def dt_L_fail : List (Nat × Instr × Nat) := [(0, .aload_n 2, 1), (1, .aload_n 0, 1), (2, .iload_n 1, 1), (3, .invokevirtual 60, 3), (6, .i2l, 1), (7, .putfield 13, 3), (10, .goto 9, 3), (13, .astore_n 3, 1), (14, .iconst 1, 1), (15, .ireturn, 1), (16, .astore_n 3, 1), (17, .iconst 2, 1), (18, .ireturn, 1), (19, .iconst 0, 1), (20, .ireturn, 1)]
theorem dd_L_fail : ∀ q ∈ dt_L_fail, decode cL_fail q.1 = .ok q.2 := by
  first
  | (refine dw_all ?_; decide +kernel)
  | decide +kernel
noncomputable def dt_L_station : List (Nat × Instr × Nat) := [(0, .aload_n 3, 1), (1, .aload_n 0, 1), (2, .iload_n 1, 1), (3, .iload_n 2, 1), (4, .invokevirtual 63, 3), (7, .i2l, 1), (8, .putfield 13, 3), (11, .goto 15, 3), (14, .astore 4, 2), (16, .iconst 1, 1), (17, .ireturn, 1), (18, .astore 4, 2), (20, .iconst 2, 1), (21, .ireturn, 1), (22, .astore 4, 2), (24, .iconst 3, 1), (25, .ireturn, 1), (26, .iconst 0, 1), (27, .ireturn, 1)]
theorem dd_L_station : ∀ q ∈ dt_L_station, decode cL_station q.1 = .ok q.2 := by
  first
  | (refine dw_all ?_; decide +kernel)
  | decide +kernel
noncomputable def dt_L_ask : List (Nat × Instr × Nat) := [(0, .aload_n 3, 1), (1, .aload_n 0, 1), (2, .iload_n 1, 1), (3, .iload_n 2, 1), (4, .invokevirtual 66, 3), (7, .i2l, 1), (8, .putfield 13, 3), (11, .goto 11, 3), (14, .astore 4, 2), (16, .iconst 1, 1), (17, .ireturn, 1), (18, .astore 4, 2), (20, .iconst 2, 1), (21, .ireturn, 1), (22, .iconst 0, 1), (23, .ireturn, 1)]
theorem dd_L_ask : ∀ q ∈ dt_L_ask, decode cL_ask q.1 = .ok q.2 := by
  first
  | (refine dw_all ?_; decide +kernel)
  | decide +kernel
noncomputable def dt_L_packs : List (Nat × Instr × Nat) := [(0, .aload_n 3, 1), (1, .aload_n 0, 1), (2, .iload_n 1, 1), (3, .iload_n 2, 1), (4, .invokevirtual 69, 3), (7, .ifCond .eq 7, 3), (10, .lconst 1, 1), (11, .goto 4, 3), (14, .lconst 0, 1), (15, .putfield 13, 3), (18, .goto 7, 3), (21, .astore 4, 2), (23, .iconst 1, 1), (24, .ireturn, 1), (25, .iconst 0, 1), (26, .ireturn, 1)]
theorem dd_L_packs : ∀ q ∈ dt_L_packs, decode cL_packs q.1 = .ok q.2 := by
  first
  | (refine dw_all ?_; decide +kernel)
  | decide +kernel
noncomputable def dt_L_channel : List (Nat × Instr × Nat) := [(0, .aload 4, 2), (2, .aload_n 0, 1), (3, .iload_n 1, 1), (4, .iload_n 2, 1), (5, .iload_n 3, 1), (6, .invokevirtual 73, 3), (9, .i2l, 1), (10, .putfield 13, 3), (13, .goto 11, 3), (16, .astore 5, 2), (18, .iconst 1, 1), (19, .ireturn, 1), (20, .astore 5, 2), (22, .iconst 2, 1), (23, .ireturn, 1), (24, .iconst 0, 1), (25, .ireturn, 1)]
theorem dd_L_channel : ∀ q ∈ dt_L_channel, decode cL_channel q.1 = .ok q.2 := by
  first
  | (refine dw_all ?_; decide +kernel)
  | decide +kernel
noncomputable def dt_L_clear : List (Nat × Instr × Nat) := [(0, .aload_n 2, 1), (1, .aload_n 0, 1), (2, .iload_n 1, 1), (3, .invokevirtual 76, 3), (6, .i2l, 1), (7, .putfield 13, 3), (10, .goto 6, 3), (13, .astore_n 3, 1), (14, .iconst 1, 1), (15, .ireturn, 1), (16, .iconst 0, 1), (17, .ireturn, 1)]
theorem dd_L_clear : ∀ q ∈ dt_L_clear, decode cL_clear q.1 = .ok q.2 := by
  first
  | (refine dw_all ?_; decide +kernel)
  | decide +kernel
noncomputable def dt_L_ofRegion : List (Nat × Instr × Nat) := [(0, .aload_n 3, 1), (1, .aload_n 0, 1), (2, .iload_n 1, 1), (3, .iload_n 2, 1), (4, .invokevirtual 79, 3), (7, .i2l, 1), (8, .putfield 13, 3), (11, .goto 11, 3), (14, .astore 4, 2), (16, .iconst 1, 1), (17, .ireturn, 1), (18, .astore 4, 2), (20, .iconst 2, 1), (21, .ireturn, 1), (22, .iconst 0, 1), (23, .ireturn, 1)]
theorem dd_L_ofRegion : ∀ q ∈ dt_L_ofRegion, decode cL_ofRegion q.1 = .ok q.2 := by
  first
  | (refine dw_all ?_; decide +kernel)
  | decide +kernel
noncomputable def dt_L_ofBidder : List (Nat × Instr × Nat) := [(0, .aload_n 3, 1), (1, .aload_n 0, 1), (2, .iload_n 1, 1), (3, .iload_n 2, 1), (4, .invokevirtual 82, 3), (7, .i2l, 1), (8, .putfield 13, 3), (11, .goto 11, 3), (14, .astore 4, 2), (16, .iconst 1, 1), (17, .ireturn, 1), (18, .astore 4, 2), (20, .iconst 2, 1), (21, .ireturn, 1), (22, .iconst 0, 1), (23, .ireturn, 1)]
theorem dd_L_ofBidder : ∀ q ∈ dt_L_ofBidder, decode cL_ofBidder q.1 = .ok q.2 := by
  first
  | (refine dw_all ?_; decide +kernel)
  | decide +kernel
noncomputable def dt_L_wants : List (Nat × Instr × Nat) := [(0, .aload 4, 2), (2, .aload_n 0, 1), (3, .iload_n 1, 1), (4, .iload_n 2, 1), (5, .iload_n 3, 1), (6, .invokevirtual 85, 3), (9, .i2l, 1), (10, .putfield 13, 3), (13, .goto 7, 3), (16, .astore 5, 2), (18, .iconst 1, 1), (19, .ireturn, 1), (20, .iconst 0, 1), (21, .ireturn, 1)]
theorem dd_L_wants : ∀ q ∈ dt_L_wants, decode cL_wants q.1 = .ok q.2 := by
  first
  | (refine dw_all ?_; decide +kernel)
  | decide +kernel
noncomputable def dt_L_priceIn : List (Nat × Instr × Nat) := [(0, .aload_n 3, 1), (1, .aload_n 0, 1), (2, .iload_n 1, 1), (3, .iload_n 2, 1), (4, .invokevirtual 89, 3), (7, .i2l, 1), (8, .putfield 13, 3), (11, .goto 7, 3), (14, .astore 4, 2), (16, .iconst 1, 1), (17, .ireturn, 1), (18, .iconst 0, 1), (19, .ireturn, 1)]
theorem dd_L_priceIn : ∀ q ∈ dt_L_priceIn, decode cL_priceIn q.1 = .ok q.2 := by
  first
  | (refine dw_all ?_; decide +kernel)
  | decide +kernel
noncomputable def dt_L_codeIn : List (Nat × Instr × Nat) := [(0, .aload 4, 2), (2, .aload_n 0, 1), (3, .iload_n 1, 1), (4, .iload_n 2, 1), (5, .iload_n 3, 1), (6, .invokevirtual 92, 3), (9, .i2l, 1), (10, .putfield 13, 3), (13, .goto 7, 3), (16, .astore 5, 2), (18, .iconst 1, 1), (19, .ireturn, 1), (20, .iconst 0, 1), (21, .ireturn, 1)]
theorem dd_L_codeIn : ∀ q ∈ dt_L_codeIn, decode cL_codeIn q.1 = .ok q.2 := by
  first
  | (refine dw_all ?_; decide +kernel)
  | decide +kernel
noncomputable def dt_L_ofPackage : List (Nat × Instr × Nat) := [(0, .aload 4, 2), (2, .aload_n 0, 1), (3, .iload_n 1, 1), (4, .iload_n 2, 1), (5, .iload_n 3, 1), (6, .invokevirtual 95, 3), (9, .i2l, 1), (10, .putfield 13, 3), (13, .goto 7, 3), (16, .astore 5, 2), (18, .iconst 1, 1), (19, .ireturn, 1), (20, .iconst 0, 1), (21, .ireturn, 1)]
theorem dd_L_ofPackage : ∀ q ∈ dt_L_ofPackage, decode cL_ofPackage q.1 = .ok q.2 := by
  first
  | (refine dw_all ?_; decide +kernel)
  | decide +kernel
noncomputable def dt_L_wins : List (Nat × Instr × Nat) := [(0, .aload_n 2, 1), (1, .aload_n 0, 1), (2, .iload_n 1, 1), (3, .invokevirtual 98, 3), (6, .i2l, 1), (7, .putfield 13, 3), (10, .goto 6, 3), (13, .astore_n 3, 1), (14, .iconst 1, 1), (15, .ireturn, 1), (16, .iconst 0, 1), (17, .ireturn, 1)]
theorem dd_L_wins : ∀ q ∈ dt_L_wins, decode cL_wins q.1 = .ok q.2 := by
  first
  | (refine dw_all ?_; decide +kernel)
  | decide +kernel
noncomputable def dt_L_pays : List (Nat × Instr × Nat) := [(0, .aload_n 3, 1), (1, .aload_n 0, 1), (2, .iload_n 1, 1), (3, .iload_n 2, 1), (4, .invokevirtual 101, 3), (7, .i2l, 1), (8, .putfield 13, 3), (11, .goto 7, 3), (14, .astore 4, 2), (16, .iconst 1, 1), (17, .ireturn, 1), (18, .iconst 0, 1), (19, .ireturn, 1)]
theorem dd_L_pays : ∀ q ∈ dt_L_pays, decode cL_pays q.1 = .ok q.2 := by
  first
  | (refine dw_all ?_; decide +kernel)
  | decide +kernel
noncomputable def dt_L_holder : List (Nat × Instr × Nat) := [(0, .aload_n 3, 1), (1, .aload_n 0, 1), (2, .iload_n 1, 1), (3, .iload_n 2, 1), (4, .invokevirtual 104, 3), (7, .i2l, 1), (8, .putfield 13, 3), (11, .goto 7, 3), (14, .astore 4, 2), (16, .iconst 1, 1), (17, .ireturn, 1), (18, .iconst 0, 1), (19, .ireturn, 1)]
theorem dd_L_holder : ∀ q ∈ dt_L_holder, decode cL_holder q.1 = .ok q.2 := by
  first
  | (refine dw_all ?_; decide +kernel)
  | decide +kernel
noncomputable def dt_L_chart : List (Nat × Instr × Nat) := [(0, .aload_n 2, 1), (1, .aload_n 0, 1), (2, .iload_n 1, 1), (3, .invokevirtual 107, 3), (6, .putfield 111, 3), (9, .goto 6, 3), (12, .astore_n 3, 1), (13, .iconst 1, 1), (14, .ireturn, 1), (15, .iconst 0, 1), (16, .ireturn, 1)]
theorem dd_L_chart : ∀ q ∈ dt_L_chart, decode cL_chart q.1 = .ok q.2 := by
  first
  | (refine dw_all ?_; decide +kernel)
  | decide +kernel
noncomputable def dt_L_sale : List (Nat × Instr × Nat) := [(0, .aload_n 2, 1), (1, .aload_n 0, 1), (2, .iload_n 1, 1), (3, .invokevirtual 115, 3), (6, .i2l, 1), (7, .putfield 13, 3), (10, .goto 6, 3), (13, .astore_n 3, 1), (14, .iconst 1, 1), (15, .ireturn, 1), (16, .iconst 0, 1), (17, .ireturn, 1)]
theorem dd_L_sale : ∀ q ∈ dt_L_sale, decode cL_sale q.1 = .ok q.2 := by
  first
  | (refine dw_all ?_; decide +kernel)
  | decide +kernel
noncomputable def dt_L_worth : List (Nat × Instr × Nat) := [(0, .aload_n 2, 1), (1, .aload_n 0, 1), (2, .iload_n 1, 1), (3, .invokevirtual 118, 3), (6, .i2l, 1), (7, .putfield 13, 3), (10, .goto 6, 3), (13, .astore_n 3, 1), (14, .iconst 1, 1), (15, .ireturn, 1), (16, .iconst 0, 1), (17, .ireturn, 1)]
theorem dd_L_worth : ∀ q ∈ dt_L_worth, decode cL_worth q.1 = .ok q.2 := by
  first
  | (refine dw_all ?_; decide +kernel)
  | decide +kernel
noncomputable def dt_L_wouldPay : List (Nat × Instr × Nat) := [(0, .aload_n 3, 1), (1, .aload_n 0, 1), (2, .iload_n 1, 1), (3, .iload_n 2, 1), (4, .invokevirtual 121, 3), (7, .i2l, 1), (8, .putfield 13, 3), (11, .goto 11, 3), (14, .astore 4, 2), (16, .iconst 1, 1), (17, .ireturn, 1), (18, .astore 4, 2), (20, .iconst 2, 1), (21, .ireturn, 1), (22, .iconst 0, 1), (23, .ireturn, 1)]
theorem dd_L_wouldPay : ∀ q ∈ dt_L_wouldPay, decode cL_wouldPay q.1 = .ok q.2 := by
  first
  | (refine dw_all ?_; decide +kernel)
  | decide +kernel
noncomputable def dt_L_objects : List (Nat × Instr × Nat) := [(0, .aload_n 3, 1), (1, .aload_n 0, 1), (2, .iload_n 1, 1), (3, .iload_n 2, 1), (4, .invokevirtual 124, 3), (7, .i2l, 1), (8, .putfield 13, 3), (11, .goto 7, 3), (14, .astore 4, 2), (16, .iconst 1, 1), (17, .ireturn, 1), (18, .iconst 0, 1), (19, .ireturn, 1)]
theorem dd_L_objects : ∀ q ∈ dt_L_objects, decode cL_objects q.1 = .ok q.2 := by
  first
  | (refine dw_all ?_; decide +kernel)
  | decide +kernel
noncomputable def dt_L_most : List (Nat × Instr × Nat) := [(0, .aload_n 3, 1), (1, .aload_n 0, 1), (2, .iload_n 1, 1), (3, .iload_n 2, 1), (4, .invokevirtual 127, 3), (7, .i2l, 1), (8, .putfield 13, 3), (11, .goto 7, 3), (14, .astore 4, 2), (16, .iconst 1, 1), (17, .ireturn, 1), (18, .iconst 0, 1), (19, .ireturn, 1)]
theorem dd_L_most : ∀ q ∈ dt_L_most, decode cL_most q.1 = .ok q.2 := by
  first
  | (refine dw_all ?_; decide +kernel)
  | decide +kernel
noncomputable def dt_L_contradicts : List (Nat × Instr × Nat) := [(0, .aload_n 2, 1), (1, .aload_n 0, 1), (2, .iload_n 1, 1), (3, .invokevirtual 130, 3), (6, .i2l, 1), (7, .putfield 13, 3), (10, .goto 6, 3), (13, .astore_n 3, 1), (14, .iconst 1, 1), (15, .ireturn, 1), (16, .iconst 0, 1), (17, .ireturn, 1)]
theorem dd_L_contradicts : ∀ q ∈ dt_L_contradicts, decode cL_contradicts q.1 = .ok q.2 := by
  first
  | (refine dw_all ?_; decide +kernel)
  | decide +kernel
noncomputable def dt_L_anew : List (Nat × Instr × Nat) := [(0, .aload 5, 2), (2, .aload_n 0, 1), (3, .iload_n 1, 1), (4, .iload_n 2, 1), (5, .iload_n 3, 1), (6, .iload 4, 2), (8, .invokevirtual 133, 3), (11, .i2l, 1), (12, .putfield 13, 3), (15, .goto 11, 3), (18, .astore 6, 2), (20, .iconst 1, 1), (21, .ireturn, 1), (22, .astore 6, 2), (24, .iconst 2, 1), (25, .ireturn, 1), (26, .iconst 0, 1), (27, .ireturn, 1)]
theorem dd_L_anew : ∀ q ∈ dt_L_anew, decode cL_anew q.1 = .ok q.2 := by
  first
  | (refine dw_all ?_; decide +kernel)
  | decide +kernel
noncomputable def dt_L_law_0 : List (Nat × Instr × Nat) := [(0, .new 8, 3), (3, .dup, 1), (4, .invokespecial 136, 3), (7, .astore_n 1, 1), (8, .new 137, 3), (11, .dup, 1), (12, .invokespecial 139, 3), (15, .astore_n 2, 1), (16, .new 14, 3), (19, .dup, 1), (20, .invokespecial 140, 3), (23, .astore_n 3, 1), (24, .iconst 0, 1), (25, .istore 4, 2), (27, .iload 4, 2), (29, .aload_n 0, 1), (30, .arraylength, 1), (31, .iconst 5, 1), (32, .isub, 1), (33, .if_icmp .gt 1662, 3), (36, .aload_n 0, 1), (37, .iload 4, 2), (39, .iaload, 1), (40, .bipush 63, 2), (42, .iand, 1), (43, .tableswitch 1646 0 36 #[161, 213, 253, 317, 373, 401, 417, 469, 497, 525, 577, 605, 633, 673, 713, 753, 805, 833, 873, 913, 981, 1021, 1089, 1157, 1185, 1241, 1281, 1339, 1367, 1395, 1435, 1475, 1515, 1543, 1607, 1620, 1633], 161), (204, .aload_n 1, 1), (205, .aload_n 0, 1), (206, .iload 4, 2), (208, .iconst 1, 1), (209, .iadd, 1), (210, .iaload, 1), (211, .aload_n 0, 1), (212, .iload 4, 2), (214, .iconst 2, 1), (215, .iadd, 1), (216, .iaload, 1), (217, .aload_n 0, 1), (218, .iload 4, 2), (220, .iconst 3, 1), (221, .iadd, 1), (222, .iaload, 1), (223, .aload_n 3, 1), (224, .invokestatic 141, 3), (227, .istore 5, 2), (229, .aload_n 2, 1), (230, .aload_n 0, 1), (231, .iload 4, 2), (233, .iconst 1, 1), (234, .iadd, 1), (235, .iaload, 1), (236, .aload_n 0, 1), (237, .iload 4, 2), (239, .iconst 2, 1), (240, .iadd, 1), (241, .iaload, 1), (242, .aload_n 0, 1), (243, .iload 4, 2), (245, .iconst 3, 1), (246, .iadd, 1)]
theorem dd_L_law_0 : ∀ q ∈ dt_L_law_0, decode cL_law q.1 = .ok q.2 := by
  first
  | (refine dw_all ?_; decide +kernel)
  | decide +kernel
noncomputable def dt_L_law_1 : List (Nat × Instr × Nat) := [(247, .iaload, 1), (248, .invokevirtual 146, 3), (251, .istore 6, 2), (253, .goto 1436, 3), (256, .aload_n 1, 1), (257, .aload_n 0, 1), (258, .iload 4, 2), (260, .iconst 1, 1), (261, .iadd, 1), (262, .iaload, 1), (263, .aload_n 0, 1), (264, .iload 4, 2), (266, .iconst 2, 1), (267, .iadd, 1), (268, .iaload, 1), (269, .aload_n 3, 1), (270, .invokestatic 147, 3), (273, .istore 5, 2), (275, .aload_n 2, 1), (276, .aload_n 0, 1), (277, .iload 4, 2), (279, .iconst 1, 1), (280, .iadd, 1), (281, .iaload, 1), (282, .aload_n 0, 1), (283, .iload 4, 2), (285, .iconst 2, 1), (286, .iadd, 1), (287, .iaload, 1), (288, .invokevirtual 150, 3), (291, .istore 6, 2), (293, .goto 1396, 3), (296, .aload_n 1, 1), (297, .aload_n 0, 1), (298, .iload 4, 2), (300, .iconst 1, 1), (301, .iadd, 1), (302, .iaload, 1), (303, .aload_n 0, 1), (304, .iload 4, 2), (306, .iconst 2, 1), (307, .iadd, 1), (308, .iaload, 1), (309, .aload_n 0, 1), (310, .iload 4, 2), (312, .iconst 3, 1), (313, .iadd, 1), (314, .iaload, 1), (315, .aload_n 0, 1), (316, .iload 4, 2), (318, .iconst 4, 1), (319, .iadd, 1), (320, .iaload, 1), (321, .aload_n 3, 1), (322, .invokestatic 151, 3), (325, .istore 5, 2), (327, .aload_n 2, 1), (328, .aload_n 0, 1), (329, .iload 4, 2), (331, .iconst 1, 1)]
theorem dd_L_law_1 : ∀ q ∈ dt_L_law_1, decode cL_law q.1 = .ok q.2 := by
  first
  | (refine dw_all ?_; decide +kernel)
  | decide +kernel
noncomputable def dt_L_law_2 : List (Nat × Instr × Nat) := [(332, .iadd, 1), (333, .iaload, 1), (334, .aload_n 0, 1), (335, .iload 4, 2), (337, .iconst 2, 1), (338, .iadd, 1), (339, .iaload, 1), (340, .aload_n 0, 1), (341, .iload 4, 2), (343, .iconst 3, 1), (344, .iadd, 1), (345, .iaload, 1), (346, .aload_n 0, 1), (347, .iload 4, 2), (349, .iconst 4, 1), (350, .iadd, 1), (351, .iaload, 1), (352, .invokevirtual 154, 3), (355, .istore 6, 2), (357, .goto 1332, 3), (360, .aload_n 1, 1), (361, .aload_n 0, 1), (362, .iload 4, 2), (364, .iconst 1, 1), (365, .iadd, 1), (366, .iaload, 1), (367, .aload_n 0, 1), (368, .iload 4, 2), (370, .iconst 2, 1), (371, .iadd, 1), (372, .iaload, 1), (373, .ifCond .eq 7, 3), (376, .iconst 1, 1), (377, .goto 4, 3), (380, .iconst 0, 1), (381, .aload_n 3, 1), (382, .invokestatic 155, 3), (385, .istore 5, 2), (387, .aload_n 2, 1), (388, .aload_n 0, 1), (389, .iload 4, 2), (391, .iconst 1, 1), (392, .iadd, 1), (393, .iaload, 1), (394, .aload_n 0, 1), (395, .iload 4, 2), (397, .iconst 2, 1), (398, .iadd, 1), (399, .iaload, 1), (400, .ifCond .eq 7, 3), (403, .iconst 1, 1), (404, .goto 4, 3), (407, .iconst 0, 1), (408, .invokevirtual 158, 3), (411, .istore 6, 2), (413, .goto 1276, 3), (416, .aload_n 1, 1), (417, .aload_n 0, 1), (418, .iload 4, 2), (420, .iconst 1, 1)]
theorem dd_L_law_2 : ∀ q ∈ dt_L_law_2, decode cL_law q.1 = .ok q.2 := by
  first
  | (refine dw_all ?_; decide +kernel)
  | decide +kernel
noncomputable def dt_L_law_3 : List (Nat × Instr × Nat) := [(421, .iadd, 1), (422, .iaload, 1), (423, .aload_n 3, 1), (424, .invokestatic 159, 3), (427, .istore 5, 2), (429, .aload_n 2, 1), (430, .aload_n 0, 1), (431, .iload 4, 2), (433, .iconst 1, 1), (434, .iadd, 1), (435, .iaload, 1), (436, .invokevirtual 162, 3), (439, .istore 6, 2), (441, .goto 1248, 3), (444, .aload_n 1, 1), (445, .aload_n 3, 1), (446, .invokestatic 163, 3), (449, .istore 5, 2), (451, .aload_n 2, 1), (452, .invokevirtual 166, 3), (455, .istore 6, 2), (457, .goto 1232, 3), (460, .aload_n 1, 1), (461, .aload_n 0, 1), (462, .iload 4, 2), (464, .iconst 1, 1), (465, .iadd, 1), (466, .iaload, 1), (467, .aload_n 0, 1), (468, .iload 4, 2), (470, .iconst 2, 1), (471, .iadd, 1), (472, .iaload, 1), (473, .aload_n 0, 1), (474, .iload 4, 2), (476, .iconst 3, 1), (477, .iadd, 1), (478, .iaload, 1), (479, .aload_n 3, 1), (480, .invokestatic 167, 3), (483, .istore 5, 2), (485, .aload_n 2, 1), (486, .aload_n 0, 1), (487, .iload 4, 2), (489, .iconst 1, 1), (490, .iadd, 1), (491, .iaload, 1), (492, .aload_n 0, 1), (493, .iload 4, 2), (495, .iconst 2, 1), (496, .iadd, 1), (497, .iaload, 1), (498, .aload_n 0, 1), (499, .iload 4, 2), (501, .iconst 3, 1), (502, .iadd, 1), (503, .iaload, 1), (504, .invokevirtual 169, 3), (507, .istore 6, 2), (509, .goto 1180, 3)]
theorem dd_L_law_3 : ∀ q ∈ dt_L_law_3, decode cL_law q.1 = .ok q.2 := by
  first
  | (refine dw_all ?_; decide +kernel)
  | decide +kernel
noncomputable def dt_L_law_4 : List (Nat × Instr × Nat) := [(512, .aload_n 1, 1), (513, .aload_n 0, 1), (514, .iload 4, 2), (516, .iconst 1, 1), (517, .iadd, 1), (518, .iaload, 1), (519, .aload_n 3, 1), (520, .invokestatic 170, 3), (523, .istore 5, 2), (525, .aload_n 2, 1), (526, .aload_n 0, 1), (527, .iload 4, 2), (529, .iconst 1, 1), (530, .iadd, 1), (531, .iaload, 1), (532, .invokevirtual 172, 3), (535, .istore 6, 2), (537, .goto 1152, 3), (540, .aload_n 1, 1), (541, .aload_n 0, 1), (542, .iload 4, 2), (544, .iconst 1, 1), (545, .iadd, 1), (546, .iaload, 1), (547, .aload_n 3, 1), (548, .invokestatic 173, 3), (551, .istore 5, 2), (553, .aload_n 2, 1), (554, .aload_n 0, 1), (555, .iload 4, 2), (557, .iconst 1, 1), (558, .iadd, 1), (559, .iaload, 1), (560, .invokevirtual 175, 3), (563, .istore 6, 2), (565, .goto 1124, 3), (568, .aload_n 1, 1), (569, .aload_n 0, 1), (570, .iload 4, 2), (572, .iconst 1, 1), (573, .iadd, 1), (574, .iaload, 1), (575, .aload_n 0, 1), (576, .iload 4, 2), (578, .iconst 2, 1), (579, .iadd, 1), (580, .iaload, 1), (581, .aload_n 0, 1), (582, .iload 4, 2), (584, .iconst 3, 1), (585, .iadd, 1), (586, .iaload, 1), (587, .aload_n 3, 1), (588, .invokestatic 176, 3), (591, .istore 5, 2), (593, .aload_n 2, 1), (594, .aload_n 0, 1), (595, .iload 4, 2), (597, .iconst 1, 1), (598, .iadd, 1)]
theorem dd_L_law_4 : ∀ q ∈ dt_L_law_4, decode cL_law q.1 = .ok q.2 := by
  first
  | (refine dw_all ?_; decide +kernel)
  | decide +kernel
noncomputable def dt_L_law_5 : List (Nat × Instr × Nat) := [(599, .iaload, 1), (600, .aload_n 0, 1), (601, .iload 4, 2), (603, .iconst 2, 1), (604, .iadd, 1), (605, .iaload, 1), (606, .aload_n 0, 1), (607, .iload 4, 2), (609, .iconst 3, 1), (610, .iadd, 1), (611, .iaload, 1), (612, .invokevirtual 178, 3), (615, .istore 6, 2), (617, .goto 1072, 3), (620, .aload_n 1, 1), (621, .aload_n 0, 1), (622, .iload 4, 2), (624, .iconst 1, 1), (625, .iadd, 1), (626, .iaload, 1), (627, .aload_n 3, 1), (628, .invokestatic 179, 3), (631, .istore 5, 2), (633, .aload_n 2, 1), (634, .aload_n 0, 1), (635, .iload 4, 2), (637, .iconst 1, 1), (638, .iadd, 1), (639, .iaload, 1), (640, .invokevirtual 181, 3), (643, .istore 6, 2), (645, .goto 1044, 3), (648, .aload_n 1, 1), (649, .aload_n 0, 1), (650, .iload 4, 2), (652, .iconst 1, 1), (653, .iadd, 1), (654, .iaload, 1), (655, .aload_n 3, 1), (656, .invokestatic 182, 3), (659, .istore 5, 2), (661, .aload_n 2, 1), (662, .aload_n 0, 1), (663, .iload 4, 2), (665, .iconst 1, 1), (666, .iadd, 1), (667, .iaload, 1), (668, .invokevirtual 184, 3), (671, .istore 6, 2), (673, .goto 1016, 3), (676, .aload_n 1, 1), (677, .aload_n 0, 1), (678, .iload 4, 2), (680, .iconst 1, 1), (681, .iadd, 1), (682, .iaload, 1), (683, .aload_n 0, 1), (684, .iload 4, 2), (686, .iconst 2, 1), (687, .iadd, 1)]
theorem dd_L_law_5 : ∀ q ∈ dt_L_law_5, decode cL_law q.1 = .ok q.2 := by
  first
  | (refine dw_all ?_; decide +kernel)
  | decide +kernel
noncomputable def dt_L_law_6 : List (Nat × Instr × Nat) := [(688, .iaload, 1), (689, .aload_n 3, 1), (690, .invokestatic 185, 3), (693, .istore 5, 2), (695, .aload_n 2, 1), (696, .aload_n 0, 1), (697, .iload 4, 2), (699, .iconst 1, 1), (700, .iadd, 1), (701, .iaload, 1), (702, .aload_n 0, 1), (703, .iload 4, 2), (705, .iconst 2, 1), (706, .iadd, 1), (707, .iaload, 1), (708, .invokevirtual 187, 3), (711, .istore 6, 2), (713, .goto 976, 3), (716, .aload_n 1, 1), (717, .aload_n 0, 1), (718, .iload 4, 2), (720, .iconst 1, 1), (721, .iadd, 1), (722, .iaload, 1), (723, .aload_n 0, 1), (724, .iload 4, 2), (726, .iconst 2, 1), (727, .iadd, 1), (728, .iaload, 1), (729, .aload_n 3, 1), (730, .invokestatic 188, 3), (733, .istore 5, 2), (735, .aload_n 2, 1), (736, .aload_n 0, 1), (737, .iload 4, 2), (739, .iconst 1, 1), (740, .iadd, 1), (741, .iaload, 1), (742, .aload_n 0, 1), (743, .iload 4, 2), (745, .iconst 2, 1), (746, .iadd, 1), (747, .iaload, 1), (748, .invokevirtual 190, 3), (751, .istore 6, 2), (753, .goto 936, 3), (756, .aload_n 1, 1), (757, .aload_n 0, 1), (758, .iload 4, 2), (760, .iconst 1, 1), (761, .iadd, 1), (762, .iaload, 1), (763, .aload_n 0, 1), (764, .iload 4, 2), (766, .iconst 2, 1), (767, .iadd, 1), (768, .iaload, 1), (769, .aload_n 3, 1), (770, .invokestatic 191, 3), (773, .istore 5, 2)]
theorem dd_L_law_6 : ∀ q ∈ dt_L_law_6, decode cL_law q.1 = .ok q.2 := by
  first
  | (refine dw_all ?_; decide +kernel)
  | decide +kernel
noncomputable def dt_L_law_7 : List (Nat × Instr × Nat) := [(775, .aload_n 2, 1), (776, .aload_n 0, 1), (777, .iload 4, 2), (779, .iconst 1, 1), (780, .iadd, 1), (781, .iaload, 1), (782, .aload_n 0, 1), (783, .iload 4, 2), (785, .iconst 2, 1), (786, .iadd, 1), (787, .iaload, 1), (788, .invokevirtual 193, 3), (791, .istore 6, 2), (793, .goto 896, 3), (796, .aload_n 1, 1), (797, .aload_n 0, 1), (798, .iload 4, 2), (800, .iconst 1, 1), (801, .iadd, 1), (802, .iaload, 1), (803, .aload_n 0, 1), (804, .iload 4, 2), (806, .iconst 2, 1), (807, .iadd, 1), (808, .iaload, 1), (809, .aload_n 0, 1), (810, .iload 4, 2), (812, .iconst 3, 1), (813, .iadd, 1), (814, .iaload, 1), (815, .aload_n 3, 1), (816, .invokestatic 194, 3), (819, .istore 5, 2), (821, .aload_n 2, 1), (822, .aload_n 0, 1), (823, .iload 4, 2), (825, .iconst 1, 1), (826, .iadd, 1), (827, .iaload, 1), (828, .aload_n 0, 1), (829, .iload 4, 2), (831, .iconst 2, 1), (832, .iadd, 1), (833, .iaload, 1), (834, .aload_n 0, 1), (835, .iload 4, 2), (837, .iconst 3, 1), (838, .iadd, 1), (839, .iaload, 1), (840, .invokevirtual 196, 3), (843, .istore 6, 2), (845, .goto 844, 3), (848, .aload_n 1, 1), (849, .aload_n 0, 1), (850, .iload 4, 2), (852, .iconst 1, 1), (853, .iadd, 1), (854, .iaload, 1), (855, .aload_n 3, 1), (856, .invokestatic 197, 3)]
theorem dd_L_law_7 : ∀ q ∈ dt_L_law_7, decode cL_law q.1 = .ok q.2 := by
  first
  | (refine dw_all ?_; decide +kernel)
  | decide +kernel
noncomputable def dt_L_law_8 : List (Nat × Instr × Nat) := [(859, .istore 5, 2), (861, .aload_n 2, 1), (862, .aload_n 0, 1), (863, .iload 4, 2), (865, .iconst 1, 1), (866, .iadd, 1), (867, .iaload, 1), (868, .invokevirtual 199, 3), (871, .istore 6, 2), (873, .goto 816, 3), (876, .aload_n 1, 1), (877, .aload_n 0, 1), (878, .iload 4, 2), (880, .iconst 1, 1), (881, .iadd, 1), (882, .iaload, 1), (883, .aload_n 0, 1), (884, .iload 4, 2), (886, .iconst 2, 1), (887, .iadd, 1), (888, .iaload, 1), (889, .aload_n 3, 1), (890, .invokestatic 200, 3), (893, .istore 5, 2), (895, .aload_n 2, 1), (896, .aload_n 0, 1), (897, .iload 4, 2), (899, .iconst 1, 1), (900, .iadd, 1), (901, .iaload, 1), (902, .aload_n 0, 1), (903, .iload 4, 2), (905, .iconst 2, 1), (906, .iadd, 1), (907, .iaload, 1), (908, .invokevirtual 202, 3), (911, .istore 6, 2), (913, .goto 776, 3), (916, .aload_n 1, 1), (917, .aload_n 0, 1), (918, .iload 4, 2), (920, .iconst 1, 1), (921, .iadd, 1), (922, .iaload, 1), (923, .aload_n 0, 1), (924, .iload 4, 2), (926, .iconst 2, 1), (927, .iadd, 1), (928, .iaload, 1), (929, .aload_n 3, 1), (930, .invokestatic 203, 3), (933, .istore 5, 2), (935, .aload_n 2, 1), (936, .aload_n 0, 1), (937, .iload 4, 2), (939, .iconst 1, 1), (940, .iadd, 1), (941, .iaload, 1), (942, .aload_n 0, 1), (943, .iload 4, 2)]
theorem dd_L_law_8 : ∀ q ∈ dt_L_law_8, decode cL_law q.1 = .ok q.2 := by
  first
  | (refine dw_all ?_; decide +kernel)
  | decide +kernel
noncomputable def dt_L_law_9 : List (Nat × Instr × Nat) := [(945, .iconst 2, 1), (946, .iadd, 1), (947, .iaload, 1), (948, .invokevirtual 205, 3), (951, .istore 6, 2), (953, .goto 736, 3), (956, .aload_n 1, 1), (957, .aload_n 0, 1), (958, .iload 4, 2), (960, .iconst 1, 1), (961, .iadd, 1), (962, .iaload, 1), (963, .aload_n 0, 1), (964, .iload 4, 2), (966, .iconst 2, 1), (967, .iadd, 1), (968, .iaload, 1), (969, .aload_n 0, 1), (970, .iload 4, 2), (972, .iconst 3, 1), (973, .iadd, 1), (974, .iaload, 1), (975, .ifCond .eq 7, 3), (978, .iconst 1, 1), (979, .goto 4, 3), (982, .iconst 0, 1), (983, .aload_n 3, 1), (984, .invokestatic 206, 3), (987, .istore 5, 2), (989, .aload_n 2, 1), (990, .aload_n 0, 1), (991, .iload 4, 2), (993, .iconst 1, 1), (994, .iadd, 1), (995, .iaload, 1), (996, .aload_n 0, 1), (997, .iload 4, 2), (999, .iconst 2, 1), (1000, .iadd, 1), (1001, .iaload, 1), (1002, .aload_n 0, 1), (1003, .iload 4, 2), (1005, .iconst 3, 1), (1006, .iadd, 1), (1007, .iaload, 1), (1008, .ifCond .eq 7, 3), (1011, .iconst 1, 1), (1012, .goto 4, 3), (1015, .iconst 0, 1), (1016, .invokevirtual 209, 3), (1019, .istore 6, 2), (1021, .goto 668, 3), (1024, .aload_n 1, 1), (1025, .aload_n 0, 1), (1026, .iload 4, 2), (1028, .iconst 1, 1), (1029, .iadd, 1), (1030, .iaload, 1), (1031, .aload_n 0, 1), (1032, .iload 4, 2)]
theorem dd_L_law_9 : ∀ q ∈ dt_L_law_9, decode cL_law q.1 = .ok q.2 := by
  first
  | (refine dw_all ?_; decide +kernel)
  | decide +kernel
noncomputable def dt_L_law_10 : List (Nat × Instr × Nat) := [(1034, .iconst 2, 1), (1035, .iadd, 1), (1036, .iaload, 1), (1037, .aload_n 3, 1), (1038, .invokestatic 210, 3), (1041, .istore 5, 2), (1043, .aload_n 2, 1), (1044, .aload_n 0, 1), (1045, .iload 4, 2), (1047, .iconst 1, 1), (1048, .iadd, 1), (1049, .iaload, 1), (1050, .aload_n 0, 1), (1051, .iload 4, 2), (1053, .iconst 2, 1), (1054, .iadd, 1), (1055, .iaload, 1), (1056, .invokevirtual 212, 3), (1059, .istore 6, 2), (1061, .goto 628, 3), (1064, .aload_n 1, 1), (1065, .aload_n 0, 1), (1066, .iload 4, 2), (1068, .iconst 1, 1), (1069, .iadd, 1), (1070, .iaload, 1), (1071, .aload_n 0, 1), (1072, .iload 4, 2), (1074, .iconst 2, 1), (1075, .iadd, 1), (1076, .iaload, 1), (1077, .aload_n 0, 1), (1078, .iload 4, 2), (1080, .iconst 3, 1), (1081, .iadd, 1), (1082, .iaload, 1), (1083, .ifCond .eq 7, 3), (1086, .iconst 1, 1), (1087, .goto 4, 3), (1090, .iconst 0, 1), (1091, .aload_n 3, 1), (1092, .invokestatic 213, 3), (1095, .istore 5, 2), (1097, .aload_n 2, 1), (1098, .aload_n 0, 1), (1099, .iload 4, 2), (1101, .iconst 1, 1), (1102, .iadd, 1), (1103, .iaload, 1), (1104, .aload_n 0, 1), (1105, .iload 4, 2), (1107, .iconst 2, 1), (1108, .iadd, 1), (1109, .iaload, 1), (1110, .aload_n 0, 1), (1111, .iload 4, 2), (1113, .iconst 3, 1), (1114, .iadd, 1), (1115, .iaload, 1), (1116, .ifCond .eq 7, 3)]
theorem dd_L_law_10 : ∀ q ∈ dt_L_law_10, decode cL_law q.1 = .ok q.2 := by
  first
  | (refine dw_all ?_; decide +kernel)
  | decide +kernel
noncomputable def dt_L_law_11 : List (Nat × Instr × Nat) := [(1119, .iconst 1, 1), (1120, .goto 4, 3), (1123, .iconst 0, 1), (1124, .invokevirtual 215, 3), (1127, .istore 6, 2), (1129, .goto 560, 3), (1132, .aload_n 1, 1), (1133, .aload_n 0, 1), (1134, .iload 4, 2), (1136, .iconst 1, 1), (1137, .iadd, 1), (1138, .iaload, 1), (1139, .aload_n 0, 1), (1140, .iload 4, 2), (1142, .iconst 2, 1), (1143, .iadd, 1), (1144, .iaload, 1), (1145, .aload_n 0, 1), (1146, .iload 4, 2), (1148, .iconst 3, 1), (1149, .iadd, 1), (1150, .iaload, 1), (1151, .ifCond .eq 7, 3), (1154, .iconst 1, 1), (1155, .goto 4, 3), (1158, .iconst 0, 1), (1159, .aload_n 3, 1), (1160, .invokestatic 216, 3), (1163, .istore 5, 2), (1165, .aload_n 2, 1), (1166, .aload_n 0, 1), (1167, .iload 4, 2), (1169, .iconst 1, 1), (1170, .iadd, 1), (1171, .iaload, 1), (1172, .aload_n 0, 1), (1173, .iload 4, 2), (1175, .iconst 2, 1), (1176, .iadd, 1), (1177, .iaload, 1), (1178, .aload_n 0, 1), (1179, .iload 4, 2), (1181, .iconst 3, 1), (1182, .iadd, 1), (1183, .iaload, 1), (1184, .ifCond .eq 7, 3), (1187, .iconst 1, 1), (1188, .goto 4, 3), (1191, .iconst 0, 1), (1192, .invokevirtual 218, 3), (1195, .istore 6, 2), (1197, .goto 492, 3), (1200, .aload_n 1, 1), (1201, .aload_n 0, 1), (1202, .iload 4, 2), (1204, .iconst 1, 1), (1205, .iadd, 1), (1206, .iaload, 1), (1207, .aload_n 3, 1), (1208, .invokestatic 219, 3)]
theorem dd_L_law_11 : ∀ q ∈ dt_L_law_11, decode cL_law q.1 = .ok q.2 := by
  first
  | (refine dw_all ?_; decide +kernel)
  | decide +kernel
noncomputable def dt_L_law_12 : List (Nat × Instr × Nat) := [(1211, .istore 5, 2), (1213, .aload_n 2, 1), (1214, .aload_n 0, 1), (1215, .iload 4, 2), (1217, .iconst 1, 1), (1218, .iadd, 1), (1219, .iaload, 1), (1220, .invokevirtual 221, 3), (1223, .istore 6, 2), (1225, .goto 464, 3), (1228, .aload_n 1, 1), (1229, .aload_n 0, 1), (1230, .iload 4, 2), (1232, .iconst 1, 1), (1233, .iadd, 1), (1234, .iaload, 1), (1235, .aload_n 0, 1), (1236, .iload 4, 2), (1238, .iconst 2, 1), (1239, .iadd, 1), (1240, .iaload, 1), (1241, .ifCond .eq 7, 3), (1244, .iconst 1, 1), (1245, .goto 4, 3), (1248, .iconst 0, 1), (1249, .aload_n 3, 1), (1250, .invokestatic 222, 3), (1253, .istore 5, 2), (1255, .aload_n 2, 1), (1256, .aload_n 0, 1), (1257, .iload 4, 2), (1259, .iconst 1, 1), (1260, .iadd, 1), (1261, .iaload, 1), (1262, .aload_n 0, 1), (1263, .iload 4, 2), (1265, .iconst 2, 1), (1266, .iadd, 1), (1267, .iaload, 1), (1268, .ifCond .eq 7, 3), (1271, .iconst 1, 1), (1272, .goto 4, 3), (1275, .iconst 0, 1), (1276, .invokevirtual 224, 3), (1279, .istore 6, 2), (1281, .goto 408, 3), (1284, .aload_n 1, 1), (1285, .aload_n 0, 1), (1286, .iload 4, 2), (1288, .iconst 1, 1), (1289, .iadd, 1), (1290, .iaload, 1), (1291, .aload_n 0, 1), (1292, .iload 4, 2), (1294, .iconst 2, 1), (1295, .iadd, 1), (1296, .iaload, 1), (1297, .aload_n 3, 1), (1298, .invokestatic 225, 3), (1301, .istore 5, 2)]
theorem dd_L_law_12 : ∀ q ∈ dt_L_law_12, decode cL_law q.1 = .ok q.2 := by
  first
  | (refine dw_all ?_; decide +kernel)
  | decide +kernel
noncomputable def dt_L_law_13 : List (Nat × Instr × Nat) := [(1303, .aload_n 2, 1), (1304, .aload_n 0, 1), (1305, .iload 4, 2), (1307, .iconst 1, 1), (1308, .iadd, 1), (1309, .iaload, 1), (1310, .aload_n 0, 1), (1311, .iload 4, 2), (1313, .iconst 2, 1), (1314, .iadd, 1), (1315, .iaload, 1), (1316, .invokevirtual 227, 3), (1319, .istore 6, 2), (1321, .goto 368, 3), (1324, .aload_n 1, 1), (1325, .aload_n 0, 1), (1326, .iload 4, 2), (1328, .iconst 1, 1), (1329, .iadd, 1), (1330, .iaload, 1), (1331, .aload_n 3, 1), (1332, .invokestatic 228, 3), (1335, .istore 5, 2), (1337, .aload_n 2, 1), (1338, .aload_n 0, 1), (1339, .iload 4, 2), (1341, .iconst 1, 1), (1342, .iadd, 1), (1343, .iaload, 1), (1344, .invokevirtual 230, 3), (1347, .astore 6, 2), (1349, .aload_n 2, 1), (1350, .invokevirtual 231, 3), (1353, .iload 5, 2), (1355, .if_icmp .eq 5, 3), (1358, .iconst 0, 1), (1359, .ireturn, 1), (1360, .iload 5, 2), (1362, .ifCond .ne 17, 3), (1365, .aload_n 3, 1), (1366, .getfield 111, 3), (1369, .aload 6, 2), (1371, .invokevirtual 234, 3), (1374, .ifCond .ne 5, 3), (1377, .iconst 0, 1), (1378, .ireturn, 1), (1379, .goto 310, 3), (1382, .aload_n 1, 1), (1383, .aload_n 0, 1), (1384, .iload 4, 2), (1386, .iconst 1, 1), (1387, .iadd, 1), (1388, .iaload, 1), (1389, .aload_n 3, 1), (1390, .invokestatic 240, 3), (1393, .istore 5, 2), (1395, .aload_n 2, 1), (1396, .aload_n 0, 1), (1397, .iload 4, 2), (1399, .iconst 1, 1)]
theorem dd_L_law_13 : ∀ q ∈ dt_L_law_13, decode cL_law q.1 = .ok q.2 := by
  first
  | (refine dw_all ?_; decide +kernel)
  | decide +kernel
noncomputable def dt_L_law_14 : List (Nat × Instr × Nat) := [(1400, .iadd, 1), (1401, .iaload, 1), (1402, .invokevirtual 242, 3), (1405, .istore 6, 2), (1407, .goto 282, 3), (1410, .aload_n 1, 1), (1411, .aload_n 0, 1), (1412, .iload 4, 2), (1414, .iconst 1, 1), (1415, .iadd, 1), (1416, .iaload, 1), (1417, .aload_n 3, 1), (1418, .invokestatic 243, 3), (1421, .istore 5, 2), (1423, .aload_n 2, 1), (1424, .aload_n 0, 1), (1425, .iload 4, 2), (1427, .iconst 1, 1), (1428, .iadd, 1), (1429, .iaload, 1), (1430, .invokevirtual 245, 3), (1433, .istore 6, 2), (1435, .goto 254, 3), (1438, .aload_n 1, 1), (1439, .aload_n 0, 1), (1440, .iload 4, 2), (1442, .iconst 1, 1), (1443, .iadd, 1), (1444, .iaload, 1), (1445, .aload_n 0, 1), (1446, .iload 4, 2), (1448, .iconst 2, 1), (1449, .iadd, 1), (1450, .iaload, 1), (1451, .aload_n 3, 1), (1452, .invokestatic 246, 3), (1455, .istore 5, 2), (1457, .aload_n 2, 1), (1458, .aload_n 0, 1), (1459, .iload 4, 2), (1461, .iconst 1, 1), (1462, .iadd, 1), (1463, .iaload, 1), (1464, .aload_n 0, 1), (1465, .iload 4, 2), (1467, .iconst 2, 1), (1468, .iadd, 1), (1469, .iaload, 1), (1470, .invokevirtual 248, 3), (1473, .istore 6, 2), (1475, .goto 214, 3), (1478, .aload_n 1, 1), (1479, .aload_n 0, 1), (1480, .iload 4, 2), (1482, .iconst 1, 1), (1483, .iadd, 1), (1484, .iaload, 1), (1485, .aload_n 0, 1), (1486, .iload 4, 2), (1488, .iconst 2, 1)]
theorem dd_L_law_14 : ∀ q ∈ dt_L_law_14, decode cL_law q.1 = .ok q.2 := by
  first
  | (refine dw_all ?_; decide +kernel)
  | decide +kernel
noncomputable def dt_L_law_15 : List (Nat × Instr × Nat) := [(1489, .iadd, 1), (1490, .iaload, 1), (1491, .aload_n 3, 1), (1492, .invokestatic 249, 3), (1495, .istore 5, 2), (1497, .aload_n 2, 1), (1498, .aload_n 0, 1), (1499, .iload 4, 2), (1501, .iconst 1, 1), (1502, .iadd, 1), (1503, .iaload, 1), (1504, .aload_n 0, 1), (1505, .iload 4, 2), (1507, .iconst 2, 1), (1508, .iadd, 1), (1509, .iaload, 1), (1510, .invokevirtual 251, 3), (1513, .istore 6, 2), (1515, .goto 174, 3), (1518, .aload_n 1, 1), (1519, .aload_n 0, 1), (1520, .iload 4, 2), (1522, .iconst 1, 1), (1523, .iadd, 1), (1524, .iaload, 1), (1525, .aload_n 0, 1), (1526, .iload 4, 2), (1528, .iconst 2, 1), (1529, .iadd, 1), (1530, .iaload, 1), (1531, .aload_n 3, 1), (1532, .invokestatic 252, 3), (1535, .istore 5, 2), (1537, .aload_n 2, 1), (1538, .aload_n 0, 1), (1539, .iload 4, 2), (1541, .iconst 1, 1), (1542, .iadd, 1), (1543, .iaload, 1), (1544, .aload_n 0, 1), (1545, .iload 4, 2), (1547, .iconst 2, 1), (1548, .iadd, 1), (1549, .iaload, 1), (1550, .invokevirtual 254, 3), (1553, .istore 6, 2), (1555, .goto 134, 3), (1558, .aload_n 1, 1), (1559, .aload_n 0, 1), (1560, .iload 4, 2), (1562, .iconst 1, 1), (1563, .iadd, 1), (1564, .iaload, 1), (1565, .aload_n 3, 1), (1566, .invokestatic 255, 3), (1569, .istore 5, 2), (1571, .aload_n 2, 1), (1572, .aload_n 0, 1), (1573, .iload 4, 2), (1575, .iconst 1, 1)]
theorem dd_L_law_15 : ∀ q ∈ dt_L_law_15, decode cL_law q.1 = .ok q.2 := by
  first
  | (refine dw_all ?_; decide +kernel)
  | decide +kernel
noncomputable def dt_L_law_16 : List (Nat × Instr × Nat) := [(1576, .iadd, 1), (1577, .iaload, 1), (1578, .invokevirtual 257, 3), (1581, .istore 6, 2), (1583, .goto 106, 3), (1586, .aload_n 1, 1), (1587, .aload_n 0, 1), (1588, .iload 4, 2), (1590, .iconst 1, 1), (1591, .iadd, 1), (1592, .iaload, 1), (1593, .aload_n 0, 1), (1594, .iload 4, 2), (1596, .iconst 2, 1), (1597, .iadd, 1), (1598, .iaload, 1), (1599, .aload_n 0, 1), (1600, .iload 4, 2), (1602, .iconst 3, 1), (1603, .iadd, 1), (1604, .iaload, 1), (1605, .aload_n 0, 1), (1606, .iload 4, 2), (1608, .iconst 4, 1), (1609, .iadd, 1), (1610, .iaload, 1), (1611, .aload_n 3, 1), (1612, .invokestatic 258, 3), (1615, .istore 5, 2), (1617, .aload_n 2, 1), (1618, .aload_n 0, 1), (1619, .iload 4, 2), (1621, .iconst 1, 1), (1622, .iadd, 1), (1623, .iaload, 1), (1624, .aload_n 0, 1), (1625, .iload 4, 2), (1627, .iconst 2, 1), (1628, .iadd, 1), (1629, .iaload, 1), (1630, .aload_n 0, 1), (1631, .iload 4, 2), (1633, .iconst 3, 1), (1634, .iadd, 1), (1635, .iaload, 1), (1636, .aload_n 0, 1), (1637, .iload 4, 2), (1639, .iconst 4, 1), (1640, .iadd, 1), (1641, .iaload, 1), (1642, .invokevirtual 260, 3), (1645, .istore 6, 2), (1647, .goto 42, 3), (1650, .aload_n 1, 1), (1651, .invokevirtual 261, 3), (1654, .pop, 1), (1655, .aload_n 2, 1), (1656, .invokevirtual 264, 3), (1659, .pop, 1), (1660, .goto 29, 3)]
theorem dd_L_law_16 : ∀ q ∈ dt_L_law_16, decode cL_law q.1 = .ok q.2 := by
  first
  | (refine dw_all ?_; decide +kernel)
  | decide +kernel
noncomputable def dt_L_law_17 : List (Nat × Instr × Nat) := [(1663, .aload_n 1, 1), (1664, .invokevirtual 265, 3), (1667, .pop, 1), (1668, .aload_n 2, 1), (1669, .invokevirtual 269, 3), (1672, .pop, 1), (1673, .goto 16, 3), (1676, .aload_n 1, 1), (1677, .invokevirtual 270, 3), (1680, .pop2, 1), (1681, .aload_n 2, 1), (1682, .invokevirtual 274, 3), (1685, .pop2, 1), (1686, .goto 3, 3), (1689, .iinc 4 5, 3), (1692, .goto (-1665), 3), (1695, .iconst 1, 1), (1696, .ireturn, 1)]
theorem dd_L_law_17 : ∀ q ∈ dt_L_law_17, decode cL_law q.1 = .ok q.2 := by
  first
  | (refine dw_all ?_; decide +kernel)
  | decide +kernel
